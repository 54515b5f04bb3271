section
variable {p : Program} {l : Launch} {e : Env} {R : Room} {s : State} {m : MethodId} {args : Array Value} {below : List Frame} {meth : Method} {c : Code} {D : va_G} {cy : Nat → ClassId} {ad : Nat → Nat}
def f_X2_bring (c0 : Nat) (i1 : Int32) (v : VV) : Option (VV) :=
  nv ((if ((v c0 0) + i1) < 1000 then ((v c0 0) + i1) else 1000)) fun x1 =>
  nv ((if 0 < x1 then x1 else 0)) fun x2 =>
  nv (wu v c0 3 ((v c0 3) + (x2 - (v c0 0)))) fun v3 =>
  nv (wu v3 c0 0 x2) fun v4 =>
  some v4
abbrev F_X2_bring (c0 : Nat) (i1 : Int32) (v : VV) : Option (VV) := f_X2_bring c0 i1 v
set_option maxHeartbeats 4000000 in
set_option maxRecDepth 100000 in
theorem w_X2_bring (C : Cx p s m args c cX2_bring 3 RX2 D cy) (hI : wI LC ad) (hr : meth.sig.returnType = none) (hlk : meth.locks = false) (hR : RoL 1 R) {vZ : VV} : ∀ (c0 : Nat) (i1 : Int32) (v : VV) (H : Heap) (locs : List Loc) (ls : Array Slot), wk LC c0 2 → f_X2_bring c0 i1 v = some vZ → va_P D vwCl (wd LC cy ad v) H → va_S (wA LC ad) s.heap H locs → lv_has ls 3 [(0, .ref (ad c0)), (1, .int i1)] → W p l e R s m args below meth c H locs 0 0 (MQ below (qvG LC cy ad D vZ) args s 0 0 (wA LC ad)) (F0 m 0 ls []) := by
  intro c0 i1 v H locs ls kc0 h hP hS hl
  unfold f_X2_bring at h
  refine lv_iconst (pc := 0) (v := 0) C.1 C.2.1 dX2_bring_0 (by decide) ?_
  refine lv_sipush (pc := 1) (v := 1000) C.1 C.2.1 dX2_bring_1 (by decide) ?_
  refine lv_aload_n (pc := 4) C.1 C.2.1 dX2_bring_4 rfl (lv_at hl 0 rfl) ?_
  refine x_geti (pc := 5) C hP ck_2 0 fl_X2_9 (by decide) rfl kc0 dX2_bring_5 ?_
  refine lv_iload_n (pc := 8) C.1 C.2.1 dX2_bring_8 rfl (lv_at hl 1 rfl) ?_
  refine lv_iadd (pc := 9) C.1 C.2.1 dX2_bring_9 ?_
  refine x_min (pc := 10) C ml_X2_58 (hR.le (by decide)) (Nat.zero_le _) (Nat.zero_le _) hl.1 (Nat.le_of_ble_eq_true rfl) dX2_bring_10 ?_
  refine lv_topi (fun x1 ex1 => ?_)
  replace h := nv_e h ex1
  clear ex1
  refine x_max (pc := 13) C ml_X2_64 (hR.le (by decide)) (Nat.zero_le _) (Nat.zero_le _) hl.1 (Nat.le_of_ble_eq_true rfl) dX2_bring_13 ?_
  refine lv_topi (fun x2 ex2 => ?_)
  replace h := nv_e h ex2
  clear ex2
  refine lv_istore_n (pc := 16) (lv' := [(2, .int x2), (0, .ref (ad c0)), (1, .int i1)]) C.1 C.2.1 dX2_bring_16 rfl hl (by decide) rfl (fun ls hl => ?_)
  refine lv_aload_n (pc := 17) C.1 C.2.1 dX2_bring_17 rfl (lv_at hl 1 rfl) ?_
  refine lv_dup (pc := 18) C.1 C.2.1 dX2_bring_18 rfl ?_
  refine x_geti (pc := 19) C hP ck_2 3 fl_X2_21 (by decide) rfl kc0 dX2_bring_19 ?_
  refine lv_iload_n (pc := 22) C.1 C.2.1 dX2_bring_22 rfl (lv_at hl 0 rfl) ?_
  refine lv_aload_n (pc := 23) C.1 C.2.1 dX2_bring_23 rfl (lv_at hl 1 rfl) ?_
  refine x_geti (pc := 24) C hP ck_2 0 fl_X2_9 (by decide) rfl kc0 dX2_bring_24 ?_
  refine lv_isub (pc := 27) C.1 C.2.1 dX2_bring_27 ?_
  refine lv_iadd (pc := 28) C.1 C.2.1 dX2_bring_28 ?_
  refine x_put (pc := 29) C hI hP hS ck_2 3 fl_X2_21 (by decide) rfl rfl kc0 rfl rfl dX2_bring_29 (fun H locs hP hS => ?_)
  obtain ⟨v3, h, hP⟩ := nv_p (P := fun z => va_P D vwCl (wd LC cy ad z) H) h hP
  refine lv_aload_n (pc := 32) C.1 C.2.1 dX2_bring_32 rfl (lv_at hl 1 rfl) ?_
  refine lv_iload_n (pc := 33) C.1 C.2.1 dX2_bring_33 rfl (lv_at hl 0 rfl) ?_
  refine x_put (pc := 34) C hI hP hS ck_2 0 fl_X2_9 (by decide) rfl rfl kc0 rfl rfl dX2_bring_34 (fun H locs hP hS => ?_)
  obtain ⟨v4, h, hP⟩ := nv_p (P := fun z => va_P D vwCl (wd LC cy ad z) H) h hP
  exact x_vret (pc := 37) C hr hlk hP hS h dX2_bring_37
set_option maxRecDepth 100000 in
theorem m_X2_bring (hI : wI LC ad) {c0 : Nat} {i1 : Int32} {v : VV} {vZ : VV} (kc0 : wk LC c0 2) (h : F_X2_bring c0 i1 v = some vZ) : Met l yX2_bring (Cond.code yX2_bring cX2_bring 3 none :: wsG) (rmL 1) (pcG LC cy ad D [.ref (ad c0), .int i1] v) (qvG LC cy ad D vZ) 0 0 (wA LC ad) := by
  refine Met.ofW (cc := cX2_bring) (maxL := 3) (ret := none) (by decide) rfl ?_
  intro p e s m args below meth c s₁ B hml hv
  obtain ⟨rfl, hP, hK⟩ := hv
  have hts := atoms_spec (ws := Cond.code yX2_bring cX2_bring 3 none :: wsG) B.pre
  have hown : s.vm.findClass RX2 = some m.cls := findClass_of_methodNamed B.named
  have C : Cx p s m _ c cX2_bring 3 RX2 D cy := ⟨B.exec, B.bytes, hml, hown, fun w hw => hts w (List.mem_cons_of_mem _ hw), hK⟩
  have hl := lv_entry ([.ref (ad c0), .int i1]) (n := 3) (Nat.le_of_ble_eq_true rfl)
  rw [lg_entry_eq]
  generalize (lg_sl ([.ref (ad c0), .int i1]) ++ List.replicate (3 - (lg_sl ([.ref (ad c0), .int i1])).length) Slot.unset).toArray = ls at hl ⊢
  have hl : lv_has ls 3 [(0, .ref (ad c0)), (1, .int i1)] := hl
  exact w_X2_bring C hI B.returns B.notSynchronized (RoL_rm _) c0 i1 v _ _ _ kc0 h hP va_S.rf (lv_sub hl [0, 1] rfl)
def f_X2_makeAndUse (c0 : Nat) (c1 : Nat) (i2 : Int32) (v : VV) : Option (VV) :=
  nv ((if (1000 - (v c0 0)) < (v c1 2) then (1000 - (v c0 0)) else (v c1 2))) fun x1 =>
  nv ((if ((v c0 0) + x1) < (v c1 3) then ((v c0 0) + x1) else (v c1 3))) fun x2 =>
  nv (wu v c0 0 ((v c0 0) + (x1 - x2))) fun v3 =>
  nv (wu v3 c0 1 ((v3 c0 1) + x1)) fun v4 =>
  nv (wu v4 c0 2 ((v4 c0 2) + x2)) fun v5 =>
  if ((v5 c1 3) ≤ x2) then
    some v5
  else
    nv (wu v5 c0 4 ((v5 c0 4) + ((v5 c1 3) - x2))) fun v6 =>
    if ((v6 c0 5) = (-6)) then
      nv (wu v6 c0 5 i2) fun v8 =>
      some v8
    else
      nv (wu v6 c0 5 (v6 c0 5)) fun v7 =>
      some v7
abbrev F_X2_makeAndUse (c0 : Nat) (c1 : Nat) (i2 : Int32) (v : VV) : Option (VV) := f_X2_makeAndUse c0 c1 i2 v
set_option maxHeartbeats 4000000 in
set_option maxRecDepth 100000 in
theorem w_X2_makeAndUse (C : Cx p s m args c cX2_makeAndUse 5 RX2 D cy) (hI : wI LC ad) (hr : meth.sig.returnType = none) (hlk : meth.locks = false) (hR : RoL 1 R) {vZ : VV} : ∀ (c0 : Nat) (c1 : Nat) (i2 : Int32) (v : VV) (H : Heap) (locs : List Loc) (ls : Array Slot), wk LC c0 2 → wk LC c1 6 → f_X2_makeAndUse c0 c1 i2 v = some vZ → va_P D vwCl (wd LC cy ad v) H → va_S (wA LC ad) s.heap H locs → lv_has ls 5 [(0, .ref (ad c0)), (1, .ref (ad c1)), (2, .int i2)] → W p l e R s m args below meth c H locs 0 0 (MQ below (qvG LC cy ad D vZ) args s 0 0 (wA LC ad)) (F0 m 0 ls []) := by
  intro c0 c1 i2 v H locs ls kc0 kc1 h hP hS hl
  unfold f_X2_makeAndUse at h
  refine lv_aload_n (pc := 0) C.1 C.2.1 dX2_makeAndUse_0 rfl (lv_at hl 1 rfl) ?_
  refine x_geti (pc := 1) C hP ck_6 2 fl_X2_67 (by decide) rfl kc1 dX2_makeAndUse_1 ?_
  refine lv_sipush (pc := 4) (v := 1000) C.1 C.2.1 dX2_makeAndUse_4 (by decide) ?_
  refine lv_aload_n (pc := 7) C.1 C.2.1 dX2_makeAndUse_7 rfl (lv_at hl 0 rfl) ?_
  refine x_geti (pc := 8) C hP ck_2 0 fl_X2_9 (by decide) rfl kc0 dX2_makeAndUse_8 ?_
  refine lv_isub (pc := 11) C.1 C.2.1 dX2_makeAndUse_11 ?_
  refine x_min (pc := 12) C ml_X2_58 (hR.le (by decide)) (Nat.zero_le _) (Nat.zero_le _) hl.1 (Nat.le_of_ble_eq_true rfl) dX2_makeAndUse_12 ?_
  refine lv_topi (fun x1 ex1 => ?_)
  replace h := nv_e h ex1
  clear ex1
  refine lv_istore_n (pc := 15) (lv' := [(3, .int x1), (0, .ref (ad c0)), (1, .ref (ad c1)), (2, .int i2)]) C.1 C.2.1 dX2_makeAndUse_15 rfl hl (by decide) rfl (fun ls hl => ?_)
  refine lv_aload_n (pc := 16) C.1 C.2.1 dX2_makeAndUse_16 rfl (lv_at hl 2 rfl) ?_
  refine x_geti (pc := 17) C hP ck_6 3 fl_X2_70 (by decide) rfl kc1 dX2_makeAndUse_17 ?_
  refine lv_aload_n (pc := 20) C.1 C.2.1 dX2_makeAndUse_20 rfl (lv_at hl 1 rfl) ?_
  refine x_geti (pc := 21) C hP ck_2 0 fl_X2_9 (by decide) rfl kc0 dX2_makeAndUse_21 ?_
  refine lv_iload_n (pc := 24) C.1 C.2.1 dX2_makeAndUse_24 rfl (lv_at hl 0 rfl) ?_
  refine lv_iadd (pc := 25) C.1 C.2.1 dX2_makeAndUse_25 ?_
  refine x_min (pc := 26) C ml_X2_58 (hR.le (by decide)) (Nat.zero_le _) (Nat.zero_le _) hl.1 (Nat.le_of_ble_eq_true rfl) dX2_makeAndUse_26 ?_
  refine lv_topi (fun x2 ex2 => ?_)
  replace h := nv_e h ex2
  clear ex2
  refine lv_istore (pc := 29) (lv' := [(4, .int x2), (3, .int x1), (0, .ref (ad c0)), (1, .ref (ad c1)), (2, .int i2)]) C.1 C.2.1 dX2_makeAndUse_29 hl (by decide) rfl (fun ls hl => ?_)
  refine lv_aload_n (pc := 31) C.1 C.2.1 dX2_makeAndUse_31 rfl (lv_at hl 2 rfl) ?_
  refine lv_dup (pc := 32) C.1 C.2.1 dX2_makeAndUse_32 rfl ?_
  refine x_geti (pc := 33) C hP ck_2 0 fl_X2_9 (by decide) rfl kc0 dX2_makeAndUse_33 ?_
  refine lv_iload_n (pc := 36) C.1 C.2.1 dX2_makeAndUse_36 rfl (lv_at hl 1 rfl) ?_
  refine lv_iload (pc := 37) C.1 C.2.1 dX2_makeAndUse_37 (lv_at hl 0 rfl) ?_
  refine lv_isub (pc := 39) C.1 C.2.1 dX2_makeAndUse_39 ?_
  refine lv_iadd (pc := 40) C.1 C.2.1 dX2_makeAndUse_40 ?_
  refine x_put (pc := 41) C hI hP hS ck_2 0 fl_X2_9 (by decide) rfl rfl kc0 rfl rfl dX2_makeAndUse_41 (fun H locs hP hS => ?_)
  obtain ⟨v3, h, hP⟩ := nv_p (P := fun z => va_P D vwCl (wd LC cy ad z) H) h hP
  refine lv_aload_n (pc := 44) C.1 C.2.1 dX2_makeAndUse_44 rfl (lv_at hl 2 rfl) ?_
  refine lv_dup (pc := 45) C.1 C.2.1 dX2_makeAndUse_45 rfl ?_
  refine x_geti (pc := 46) C hP ck_2 1 fl_X2_15 (by decide) rfl kc0 dX2_makeAndUse_46 ?_
  refine lv_iload_n (pc := 49) C.1 C.2.1 dX2_makeAndUse_49 rfl (lv_at hl 1 rfl) ?_
  refine lv_iadd (pc := 50) C.1 C.2.1 dX2_makeAndUse_50 ?_
  refine x_put (pc := 51) C hI hP hS ck_2 1 fl_X2_15 (by decide) rfl rfl kc0 rfl rfl dX2_makeAndUse_51 (fun H locs hP hS => ?_)
  obtain ⟨v4, h, hP⟩ := nv_p (P := fun z => va_P D vwCl (wd LC cy ad z) H) h hP
  refine lv_aload_n (pc := 54) C.1 C.2.1 dX2_makeAndUse_54 rfl (lv_at hl 2 rfl) ?_
  refine lv_dup (pc := 55) C.1 C.2.1 dX2_makeAndUse_55 rfl ?_
  refine x_geti (pc := 56) C hP ck_2 2 fl_X2_18 (by decide) rfl kc0 dX2_makeAndUse_56 ?_
  refine lv_iload (pc := 59) C.1 C.2.1 dX2_makeAndUse_59 (lv_at hl 0 rfl) ?_
  refine lv_iadd (pc := 61) C.1 C.2.1 dX2_makeAndUse_61 ?_
  refine x_put (pc := 62) C hI hP hS ck_2 2 fl_X2_18 (by decide) rfl rfl kc0 rfl rfl dX2_makeAndUse_62 (fun H locs hP hS => ?_)
  obtain ⟨v5, h, hP⟩ := nv_p (P := fun z => va_P D vwCl (wd LC cy ad z) H) h hP
  refine lv_iload (pc := 65) C.1 C.2.1 dX2_makeAndUse_65 (lv_at hl 0 rfl) ?_
  refine lv_aload_n (pc := 67) C.1 C.2.1 dX2_makeAndUse_67 rfl (lv_at hl 3 rfl) ?_
  refine x_geti (pc := 68) C hP ck_6 3 fl_X2_70 (by decide) rfl kc1 dX2_makeAndUse_68 ?_
  refine lv_icmp_ge (pc := 71) (tgt := 111) C.1 C.2.1 dX2_makeAndUse_71 (by decide) (fun b71 => ?_) (fun b71 => ?_)
  · replace h := if_t h b71
    exact x_vret (pc := 111) C hr hlk hP hS h dX2_makeAndUse_111
  · replace h := if_f h b71
    refine lv_aload_n (pc := 74) C.1 C.2.1 dX2_makeAndUse_74 rfl (lv_at hl 2 rfl) ?_
    refine lv_dup (pc := 75) C.1 C.2.1 dX2_makeAndUse_75 rfl ?_
    refine x_geti (pc := 76) C hP ck_2 4 fl_X2_24 (by decide) rfl kc0 dX2_makeAndUse_76 ?_
    refine lv_aload_n (pc := 79) C.1 C.2.1 dX2_makeAndUse_79 rfl (lv_at hl 3 rfl) ?_
    refine x_geti (pc := 80) C hP ck_6 3 fl_X2_70 (by decide) rfl kc1 dX2_makeAndUse_80 ?_
    refine lv_iload (pc := 83) C.1 C.2.1 dX2_makeAndUse_83 (lv_at hl 0 rfl) ?_
    refine lv_isub (pc := 85) C.1 C.2.1 dX2_makeAndUse_85 ?_
    refine lv_iadd (pc := 86) C.1 C.2.1 dX2_makeAndUse_86 ?_
    refine x_put (pc := 87) C hI hP hS ck_2 4 fl_X2_24 (by decide) rfl rfl kc0 rfl rfl dX2_makeAndUse_87 (fun H locs hP hS => ?_)
    obtain ⟨v6, h, hP⟩ := nv_p (P := fun z => va_P D vwCl (wd LC cy ad z) H) h hP
    refine lv_aload_n (pc := 90) C.1 C.2.1 dX2_makeAndUse_90 rfl (lv_at hl 2 rfl) ?_
    refine lv_aload_n (pc := 91) C.1 C.2.1 dX2_makeAndUse_91 rfl (lv_at hl 2 rfl) ?_
    refine x_geti (pc := 92) C hP ck_2 5 fl_X2_27 (by decide) rfl kc0 dX2_makeAndUse_92 ?_
    refine lv_bipush (pc := 95) (v := (-6)) C.1 C.2.1 dX2_makeAndUse_95 (by decide) ?_
    refine lv_icmp_ne (pc := 97) (tgt := 104) C.1 C.2.1 dX2_makeAndUse_97 (by decide) (fun b97 => ?_) (fun b97 => ?_)
    · replace h := if_f h b97
      refine lv_aload_n (pc := 104) C.1 C.2.1 dX2_makeAndUse_104 rfl (lv_at hl 2 rfl) ?_
      refine x_geti (pc := 105) C hP ck_2 5 fl_X2_27 (by decide) rfl kc0 dX2_makeAndUse_105 ?_
      refine x_put (pc := 108) C hI hP hS ck_2 5 fl_X2_27 (by decide) rfl rfl kc0 rfl rfl dX2_makeAndUse_108 (fun H locs hP hS => ?_)
      obtain ⟨v7, h, hP⟩ := nv_p (P := fun z => va_P D vwCl (wd LC cy ad z) H) h hP
      exact x_vret (pc := 111) C hr hlk hP hS h dX2_makeAndUse_111
    · replace h := if_t h b97
      refine lv_iload_n (pc := 100) C.1 C.2.1 dX2_makeAndUse_100 rfl (lv_at hl 4 rfl) ?_
      refine lv_goto (pc := 101) (tgt := 108) C.1 C.2.1 dX2_makeAndUse_101 (by decide) ?_
      refine x_put (pc := 108) C hI hP hS ck_2 5 fl_X2_27 (by decide) rfl rfl kc0 rfl rfl dX2_makeAndUse_108 (fun H locs hP hS => ?_)
      obtain ⟨v8, h, hP⟩ := nv_p (P := fun z => va_P D vwCl (wd LC cy ad z) H) h hP
      exact x_vret (pc := 111) C hr hlk hP hS h dX2_makeAndUse_111
set_option maxRecDepth 100000 in
theorem m_X2_makeAndUse (hI : wI LC ad) {c0 : Nat} {c1 : Nat} {i2 : Int32} {v : VV} {vZ : VV} (kc0 : wk LC c0 2) (kc1 : wk LC c1 6) (h : F_X2_makeAndUse c0 c1 i2 v = some vZ) : Met l yX2_makeAndUse (Cond.code yX2_makeAndUse cX2_makeAndUse 5 none :: wsG) (rmL 1) (pcG LC cy ad D [.ref (ad c0), .ref (ad c1), .int i2] v) (qvG LC cy ad D vZ) 0 0 (wA LC ad) := by
  refine Met.ofW (cc := cX2_makeAndUse) (maxL := 5) (ret := none) (by decide) rfl ?_
  intro p e s m args below meth c s₁ B hml hv
  obtain ⟨rfl, hP, hK⟩ := hv
  have hts := atoms_spec (ws := Cond.code yX2_makeAndUse cX2_makeAndUse 5 none :: wsG) B.pre
  have hown : s.vm.findClass RX2 = some m.cls := findClass_of_methodNamed B.named
  have C : Cx p s m _ c cX2_makeAndUse 5 RX2 D cy := ⟨B.exec, B.bytes, hml, hown, fun w hw => hts w (List.mem_cons_of_mem _ hw), hK⟩
  have hl := lv_entry ([.ref (ad c0), .ref (ad c1), .int i2]) (n := 5) (Nat.le_of_ble_eq_true rfl)
  rw [lg_entry_eq]
  generalize (lg_sl ([.ref (ad c0), .ref (ad c1), .int i2]) ++ List.replicate (5 - (lg_sl ([.ref (ad c0), .ref (ad c1), .int i2])).length) Slot.unset).toArray = ls at hl ⊢
  have hl : lv_has ls 5 [(0, .ref (ad c0)), (1, .ref (ad c1)), (2, .int i2)] := hl
  exact w_X2_makeAndUse C hI B.returns B.notSynchronized (RoL_rm _) c0 c1 i2 v _ _ _ kc0 kc1 h hP va_S.rf (lv_sub hl [0, 1, 2] rfl)
def f_X2_follow_l45 (k109 : Nat → Nat → Nat → Int32 → Int32 → Int32 → VV → Option (VV)) : Nat → Nat → Nat → Nat → Int32 → Int32 → Int32 → VV → Option (VV)
  | 0, _, _, _, _, _, _, _ => none
  | n + 1, c0, c1, c2, i5, i6, i7, v =>
    if ((v c2 3) ≤ i6) then
      k109 c0 c1 c2 i5 i6 i7 v
    else
      gd (inB i6 (lnC (rfC c2 0)) = true) <|
      if (i7 < (v (rfC c2 0) (Int32.toNatClampNeg i6))) then
        k109 c0 c1 c2 i5 i6 i7 v
      else
        gd (inB i6 (lnC (rfC c2 0)) = true) <|
        if ((v (rfC c2 0) (Int32.toNatClampNeg i6)) = i7) then
          gd (inB i6 (lnC (rfC c2 1)) = true) <|
          if ((v (rfC c2 1) (Int32.toNatClampNeg i6)) = (v c1 0)) then
            gd (inB i6 (lnC (rfC c2 2)) = true) <|
            (F_X2_bring c0 (v (rfC c2 2) (Int32.toNatClampNeg i6)) v).bind fun v18 =>
            nv (i6 + 1) fun x19 =>
            f_X2_follow_l45 k109 n c0 c1 c2 i5 x19 i7 v18
          else
            nv (i6 + 1) fun x14 =>
            f_X2_follow_l45 k109 n c0 c1 c2 i5 x14 i7 v
        else
          nv (i6 + 1) fun x11 =>
          f_X2_follow_l45 k109 n c0 c1 c2 i5 x11 i7 v
def f_X2_follow_b109 (k38 : Nat → Nat → Nat → Int32 → Int32 → Int32 → VV → Option (VV)) (c0 : Nat) (c1 : Nat) (c2 : Nat) (i5 : Int32) (i6 : Int32) (i7 : Int32) (v : VV) : Option (VV) :=
  (F_X2_makeAndUse c0 c1 i7 v).bind fun v22 =>
  nv (i7 + 1) fun x23 =>
  k38 c0 c1 c2 i5 i6 x23 v22
def f_X2_follow_l38 : Nat → Nat → Nat → Nat → Int32 → Int32 → Int32 → VV → Option (VV)
  | 0, _, _, _, _, _, _, _ => none
  | n + 1, c0, c1, c2, i5, i6, i7, v =>
    if (i5 ≤ i7) then
      some v
    else
      f_X2_follow_l45 (fun c0_20 c1_20 c2_20 i5_20 i6_20 i7_20 v_20 =>
      f_X2_follow_b109 (fun c0 c1 c2 i5 i6 i7 v => f_X2_follow_l38 n c0 c1 c2 i5 i6 i7 v) c0_20 c1_20 c2_20 i5_20 i6_20 i7_20 v_20) FU c0 c1 c2 i5 i6 i7 v
def f_X2_follow (c0 : Nat) (c1 : Nat) (c2 : Nat) (i3 : Int32) (i4 : Int32) (i5 : Int32) (v : VV) : Option (VV) :=
  nv (wu v c0 0 i3) fun v1 =>
  nv (wu v1 c0 1 0) fun v2 =>
  nv (wu v2 c0 2 0) fun v3 =>
  nv (wu v3 c0 3 0) fun v4 =>
  nv (wu v4 c0 4 0) fun v5 =>
  nv (wu v5 c0 5 (-6)) fun v6 =>
  f_X2_follow_l38 FU c0 c1 c2 i5 0 i4 v6
abbrev F_X2_follow (c0 : Nat) (c1 : Nat) (c2 : Nat) (i3 : Int32) (i4 : Int32) (i5 : Int32) (v : VV) : Option (VV) := f_X2_follow c0 c1 c2 i3 i4 i5 v
set_option maxHeartbeats 4000000 in
set_option maxRecDepth 100000 in
theorem w_X2_follow_l45 (C : Cx p s m args c cX2_follow 8 RX2 D cy) (hI : wI LC ad) (hr : meth.sig.returnType = none) (hlk : meth.locks = false) (hR : RoL 2 R) (k109 : Nat → Nat → Nat → Int32 → Int32 → Int32 → VV → Option (VV)) {vZ : VV} (h109 : ∀ (c0 : Nat) (c1 : Nat) (c2 : Nat) (i5 : Int32) (i6 : Int32) (i7 : Int32) (v : VV) (H : Heap) (locs : List Loc) (ls : Array Slot), wk LC c0 2 → wk LC c1 6 → wk LC c2 0 → k109 c0 c1 c2 i5 i6 i7 v = some vZ → va_P D vwCl (wd LC cy ad v) H → va_S (wA LC ad) s.heap H locs → lv_has ls 8 [(0, .ref (ad c0)), (1, .ref (ad c1)), (2, .ref (ad c2)), (5, .int i5), (6, .int i6), (7, .int i7)] → W p l e R s m args below meth c H locs 0 0 (MQ below (qvG LC cy ad D vZ) args s 0 0 (wA LC ad)) (F0 m 109 ls [])) : ∀ (n : Nat) (c0 : Nat) (c1 : Nat) (c2 : Nat) (i5 : Int32) (i6 : Int32) (i7 : Int32) (v : VV) (H : Heap) (locs : List Loc) (ls : Array Slot), wk LC c0 2 → wk LC c1 6 → wk LC c2 0 → f_X2_follow_l45 k109 n c0 c1 c2 i5 i6 i7 v = some vZ → va_P D vwCl (wd LC cy ad v) H → va_S (wA LC ad) s.heap H locs → lv_has ls 8 [(0, .ref (ad c0)), (1, .ref (ad c1)), (2, .ref (ad c2)), (5, .int i5), (6, .int i6), (7, .int i7)] → W p l e R s m args below meth c H locs 0 0 (MQ below (qvG LC cy ad D vZ) args s 0 0 (wA LC ad)) (F0 m 45 ls []) := by
  intro n
  induction n with
  | zero => intro c0 c1 c2 i5 i6 i7 v H locs ls kc0 kc1 kc2 h hP hS hl; exact absurd h (by simp [f_X2_follow_l45])
  | succ n ih =>
    intro c0 c1 c2 i5 i6 i7 v H locs ls kc0 kc1 kc2 h hP hS hl
    rw [f_X2_follow_l45] at h
    refine lv_iload (pc := 45) C.1 C.2.1 dX2_follow_45 (lv_at hl 4 rfl) ?_
    refine lv_aload_n (pc := 47) C.1 C.2.1 dX2_follow_47 rfl (lv_at hl 2 rfl) ?_
    refine x_geti (pc := 48) C hP ck_0 3 fl_X2_30 (by decide) rfl kc2 dX2_follow_48 ?_
    refine lv_icmp_ge (pc := 51) (tgt := 109) C.1 C.2.1 dX2_follow_51 (by decide) (fun b51 => ?_) (fun b51 => ?_)
    · replace h := if_t h b51
      exact h109 c0 c1 c2 i5 i6 i7 v _ _ _ kc0 kc1 kc2 h hP hS (lv_sub hl [0, 1, 2, 3, 4, 5] rfl)
    · replace h := if_f h b51
      refine lv_aload_n (pc := 54) C.1 C.2.1 dX2_follow_54 rfl (lv_at hl 2 rfl) ?_
      refine x_getr (pc := 55) C hP ck_0 0 fl_X2_35 (by decide) rfl kc2 dX2_follow_55 ?_
      have k7 : wk LC (rfC c2 0) 12 := wt_f wT_C kc2 0 (by decide) rfl rfl
      refine lv_iload (pc := 58) C.1 C.2.1 dX2_follow_58 (lv_at hl 4 rfl) ?_
      obtain ⟨g8, h⟩ := gd_e h
      refine x_iald (pc := 60) C hP k7 (inB_vp g8) dX2_follow_60 ?_
      refine lv_iload (pc := 61) C.1 C.2.1 dX2_follow_61 (lv_at hl 5 rfl) ?_
      refine lv_icmp_gt (pc := 63) (tgt := 109) C.1 C.2.1 dX2_follow_63 (by decide) (fun b63 => ?_) (fun b63 => ?_)
      · replace h := if_t h b63
        exact h109 c0 c1 c2 i5 i6 i7 v _ _ _ kc0 kc1 kc2 h hP hS (lv_sub hl [0, 1, 2, 3, 4, 5] rfl)
      · replace h := if_f h b63
        refine lv_aload_n (pc := 66) C.1 C.2.1 dX2_follow_66 rfl (lv_at hl 2 rfl) ?_
        refine x_getr (pc := 67) C hP ck_0 0 fl_X2_35 (by decide) rfl kc2 dX2_follow_67 ?_
        have k9 : wk LC (rfC c2 0) 12 := wt_f wT_C kc2 0 (by decide) rfl rfl
        refine lv_iload (pc := 70) C.1 C.2.1 dX2_follow_70 (lv_at hl 4 rfl) ?_
        obtain ⟨g10, h⟩ := gd_e h
        refine x_iald (pc := 72) C hP k9 (inB_vp g10) dX2_follow_72 ?_
        refine lv_iload (pc := 73) C.1 C.2.1 dX2_follow_73 (lv_at hl 5 rfl) ?_
        refine lv_icmp_ne (pc := 75) (tgt := 103) C.1 C.2.1 dX2_follow_75 (by decide) (fun b75 => ?_) (fun b75 => ?_)
        · replace h := if_f h b75
          obtain ⟨x11, ex11⟩ : ∃ y : Int32, y = i6 + 1 := ⟨_, rfl⟩
          replace h := nv_e h ex11
          refine lv_iinc (pc := 103) (v := x11) (lv' := [(6, .int x11), (0, .ref (ad c0)), (1, .ref (ad c1)), (2, .ref (ad c2)), (5, .int i5), (7, .int i7)]) C.1 C.2.1 dX2_follow_103 hl (k := 4) rfl (by rw [ex11]; rfl) (by decide) rfl (fun ls hl => ?_)
          clear ex11
          refine lv_goto (pc := 106) (tgt := 45) C.1 C.2.1 dX2_follow_106 (by decide) ?_
          exact ih c0 c1 c2 i5 x11 i7 v _ _ _ kc0 kc1 kc2 h hP hS (lv_sub hl [1, 2, 3, 4, 0, 5] rfl)
        · replace h := if_t h b75
          refine lv_aload_n (pc := 78) C.1 C.2.1 dX2_follow_78 rfl (lv_at hl 2 rfl) ?_
          refine x_getr (pc := 79) C hP ck_0 1 fl_X2_39 (by decide) rfl kc2 dX2_follow_79 ?_
          have k12 : wk LC (rfC c2 1) 12 := wt_f wT_C kc2 1 (by decide) rfl rfl
          refine lv_iload (pc := 82) C.1 C.2.1 dX2_follow_82 (lv_at hl 4 rfl) ?_
          obtain ⟨g13, h⟩ := gd_e h
          refine x_iald (pc := 84) C hP k12 (inB_vp g13) dX2_follow_84 ?_
          refine lv_aload_n (pc := 85) C.1 C.2.1 dX2_follow_85 rfl (lv_at hl 1 rfl) ?_
          refine x_geti (pc := 86) C hP ck_6 0 fl_X2_42 (by decide) rfl kc1 dX2_follow_86 ?_
          refine lv_icmp_ne (pc := 89) (tgt := 103) C.1 C.2.1 dX2_follow_89 (by decide) (fun b89 => ?_) (fun b89 => ?_)
          · replace h := if_f h b89
            obtain ⟨x14, ex14⟩ : ∃ y : Int32, y = i6 + 1 := ⟨_, rfl⟩
            replace h := nv_e h ex14
            refine lv_iinc (pc := 103) (v := x14) (lv' := [(6, .int x14), (0, .ref (ad c0)), (1, .ref (ad c1)), (2, .ref (ad c2)), (5, .int i5), (7, .int i7)]) C.1 C.2.1 dX2_follow_103 hl (k := 4) rfl (by rw [ex14]; rfl) (by decide) rfl (fun ls hl => ?_)
            clear ex14
            refine lv_goto (pc := 106) (tgt := 45) C.1 C.2.1 dX2_follow_106 (by decide) ?_
            exact ih c0 c1 c2 i5 x14 i7 v _ _ _ kc0 kc1 kc2 h hP hS (lv_sub hl [1, 2, 3, 4, 0, 5] rfl)
          · replace h := if_t h b89
            refine lv_aload_n (pc := 92) C.1 C.2.1 dX2_follow_92 rfl (lv_at hl 0 rfl) ?_
            refine lv_aload_n (pc := 93) C.1 C.2.1 dX2_follow_93 rfl (lv_at hl 2 rfl) ?_
            refine x_getr (pc := 94) C hP ck_0 2 fl_X2_47 (by decide) rfl kc2 dX2_follow_94 ?_
            have k15 : wk LC (rfC c2 2) 12 := wt_f wT_C kc2 2 (by decide) rfl rfl
            refine lv_iload (pc := 97) C.1 C.2.1 dX2_follow_97 (lv_at hl 4 rfl) ?_
            obtain ⟨g16, h⟩ := gd_e h
            refine x_iald (pc := 99) C hP k15 (inB_vp g16) dX2_follow_99 ?_
            obtain ⟨v18, hc17, h⟩ := bd_e h
            refine x_callv (pc := 100) C hP hS mi_X2_bring ck_2 kc0 ml_X2_50 (hR.le (by decide)) (Nat.zero_le _) (Nat.zero_le _) [.int (v (rfC c2 2) (Int32.toNatClampNeg i6))] rfl hl.1 rfl (Nat.le_of_ble_eq_true rfl) dX2_follow_100 (m_X2_bring hI kc0 hc17) (fun H locs hP hS => ?_)
            obtain ⟨x19, ex19⟩ : ∃ y : Int32, y = i6 + 1 := ⟨_, rfl⟩
            replace h := nv_e h ex19
            refine lv_iinc (pc := 103) (v := x19) (lv' := [(6, .int x19), (0, .ref (ad c0)), (1, .ref (ad c1)), (2, .ref (ad c2)), (5, .int i5), (7, .int i7)]) C.1 C.2.1 dX2_follow_103 hl (k := 4) rfl (by rw [ex19]; rfl) (by decide) rfl (fun ls hl => ?_)
            clear ex19
            refine lv_goto (pc := 106) (tgt := 45) C.1 C.2.1 dX2_follow_106 (by decide) ?_
            exact ih c0 c1 c2 i5 x19 i7 v18 _ _ _ kc0 kc1 kc2 h hP hS (lv_sub hl [1, 2, 3, 4, 0, 5] rfl)
set_option maxHeartbeats 4000000 in
set_option maxRecDepth 100000 in
theorem w_X2_follow_b109 (C : Cx p s m args c cX2_follow 8 RX2 D cy) (hI : wI LC ad) (hr : meth.sig.returnType = none) (hlk : meth.locks = false) (hR : RoL 2 R) (k38 : Nat → Nat → Nat → Int32 → Int32 → Int32 → VV → Option (VV)) {vZ : VV} (h38 : ∀ (c0 : Nat) (c1 : Nat) (c2 : Nat) (i5 : Int32) (i6 : Int32) (i7 : Int32) (v : VV) (H : Heap) (locs : List Loc) (ls : Array Slot), wk LC c0 2 → wk LC c1 6 → wk LC c2 0 → k38 c0 c1 c2 i5 i6 i7 v = some vZ → va_P D vwCl (wd LC cy ad v) H → va_S (wA LC ad) s.heap H locs → lv_has ls 8 [(0, .ref (ad c0)), (1, .ref (ad c1)), (2, .ref (ad c2)), (5, .int i5), (6, .int i6), (7, .int i7)] → W p l e R s m args below meth c H locs 0 0 (MQ below (qvG LC cy ad D vZ) args s 0 0 (wA LC ad)) (F0 m 38 ls [])) : ∀ (c0 : Nat) (c1 : Nat) (c2 : Nat) (i5 : Int32) (i6 : Int32) (i7 : Int32) (v : VV) (H : Heap) (locs : List Loc) (ls : Array Slot), wk LC c0 2 → wk LC c1 6 → wk LC c2 0 → f_X2_follow_b109 k38 c0 c1 c2 i5 i6 i7 v = some vZ → va_P D vwCl (wd LC cy ad v) H → va_S (wA LC ad) s.heap H locs → lv_has ls 8 [(0, .ref (ad c0)), (1, .ref (ad c1)), (2, .ref (ad c2)), (5, .int i5), (6, .int i6), (7, .int i7)] → W p l e R s m args below meth c H locs 0 0 (MQ below (qvG LC cy ad D vZ) args s 0 0 (wA LC ad)) (F0 m 109 ls []) := by
  intro c0 c1 c2 i5 i6 i7 v H locs ls kc0 kc1 kc2 h hP hS hl
  unfold f_X2_follow_b109 at h
  refine lv_aload_n (pc := 109) C.1 C.2.1 dX2_follow_109 rfl (lv_at hl 0 rfl) ?_
  refine lv_aload_n (pc := 110) C.1 C.2.1 dX2_follow_110 rfl (lv_at hl 1 rfl) ?_
  refine lv_iload (pc := 111) C.1 C.2.1 dX2_follow_111 (lv_at hl 5 rfl) ?_
  obtain ⟨v22, hc21, h⟩ := bd_e h
  refine x_callv (pc := 113) C hP hS mi_X2_makeAndUse ck_2 kc0 ml_X2_54 (hR.le (by decide)) (Nat.zero_le _) (Nat.zero_le _) [.ref (ad c1), .int i7] rfl hl.1 rfl (Nat.le_of_ble_eq_true rfl) dX2_follow_113 (m_X2_makeAndUse hI kc0 kc1 hc21) (fun H locs hP hS => ?_)
  obtain ⟨x23, ex23⟩ : ∃ y : Int32, y = i7 + 1 := ⟨_, rfl⟩
  replace h := nv_e h ex23
  refine lv_iinc (pc := 116) (v := x23) (lv' := [(7, .int x23), (0, .ref (ad c0)), (1, .ref (ad c1)), (2, .ref (ad c2)), (5, .int i5), (6, .int i6)]) C.1 C.2.1 dX2_follow_116 hl (k := 5) rfl (by rw [ex23]; rfl) (by decide) rfl (fun ls hl => ?_)
  clear ex23
  refine lv_goto (pc := 119) (tgt := 38) C.1 C.2.1 dX2_follow_119 (by decide) ?_
  exact h38 c0 c1 c2 i5 i6 x23 v22 _ _ _ kc0 kc1 kc2 h hP hS (lv_sub hl [1, 2, 3, 4, 5, 0] rfl)
set_option maxHeartbeats 4000000 in
set_option maxRecDepth 100000 in
theorem w_X2_follow_l38 (C : Cx p s m args c cX2_follow 8 RX2 D cy) (hI : wI LC ad) (hr : meth.sig.returnType = none) (hlk : meth.locks = false) (hR : RoL 2 R) {vZ : VV} : ∀ (n : Nat) (c0 : Nat) (c1 : Nat) (c2 : Nat) (i5 : Int32) (i6 : Int32) (i7 : Int32) (v : VV) (H : Heap) (locs : List Loc) (ls : Array Slot), wk LC c0 2 → wk LC c1 6 → wk LC c2 0 → f_X2_follow_l38 n c0 c1 c2 i5 i6 i7 v = some vZ → va_P D vwCl (wd LC cy ad v) H → va_S (wA LC ad) s.heap H locs → lv_has ls 8 [(0, .ref (ad c0)), (1, .ref (ad c1)), (2, .ref (ad c2)), (5, .int i5), (6, .int i6), (7, .int i7)] → W p l e R s m args below meth c H locs 0 0 (MQ below (qvG LC cy ad D vZ) args s 0 0 (wA LC ad)) (F0 m 38 ls []) := by
  intro n
  induction n with
  | zero => intro c0 c1 c2 i5 i6 i7 v H locs ls kc0 kc1 kc2 h hP hS hl; exact absurd h (by simp [f_X2_follow_l38])
  | succ n ih =>
    intro c0 c1 c2 i5 i6 i7 v H locs ls kc0 kc1 kc2 h hP hS hl
    rw [f_X2_follow_l38] at h
    refine lv_iload (pc := 38) C.1 C.2.1 dX2_follow_38 (lv_at hl 5 rfl) ?_
    refine lv_iload (pc := 40) C.1 C.2.1 dX2_follow_40 (lv_at hl 3 rfl) ?_
    refine lv_icmp_ge (pc := 42) (tgt := 122) C.1 C.2.1 dX2_follow_42 (by decide) (fun b42 => ?_) (fun b42 => ?_)
    · replace h := if_t h b42
      exact x_vret (pc := 122) C hr hlk hP hS h dX2_follow_122
    · replace h := if_f h b42
      refine w_X2_follow_l45 C hI hr hlk hR _ ?_ FU c0 c1 c2 i5 i6 i7 v _ _ _ kc0 kc1 kc2 h hP hS (lv_sub hl [0, 1, 2, 3, 4, 5] rfl)
      intro c0_20 c1_20 c2_20 i5_20 i6_20 i7_20 v_20 H locs ls kc0_20 kc1_20 kc2_20 h hP hS hl
      exact w_X2_follow_b109 C hI hr hlk hR _ (fun c0 c1 c2 i5 i6 i7 v H locs ls kc0 kc1 kc2 h hP hS hl => ih c0 c1 c2 i5 i6 i7 v H locs ls kc0 kc1 kc2 h hP hS hl) c0_20 c1_20 c2_20 i5_20 i6_20 i7_20 v_20 _ _ _ kc0_20 kc1_20 kc2_20 h hP hS (lv_sub hl [0, 1, 2, 3, 4, 5] rfl)
set_option maxHeartbeats 4000000 in
set_option maxRecDepth 100000 in
theorem w_X2_follow (C : Cx p s m args c cX2_follow 8 RX2 D cy) (hI : wI LC ad) (hr : meth.sig.returnType = none) (hlk : meth.locks = false) (hR : RoL 2 R) {vZ : VV} : ∀ (c0 : Nat) (c1 : Nat) (c2 : Nat) (i3 : Int32) (i4 : Int32) (i5 : Int32) (v : VV) (H : Heap) (locs : List Loc) (ls : Array Slot), wk LC c0 2 → wk LC c1 6 → wk LC c2 0 → f_X2_follow c0 c1 c2 i3 i4 i5 v = some vZ → va_P D vwCl (wd LC cy ad v) H → va_S (wA LC ad) s.heap H locs → lv_has ls 8 [(0, .ref (ad c0)), (1, .ref (ad c1)), (2, .ref (ad c2)), (3, .int i3), (4, .int i4), (5, .int i5)] → W p l e R s m args below meth c H locs 0 0 (MQ below (qvG LC cy ad D vZ) args s 0 0 (wA LC ad)) (F0 m 0 ls []) := by
  intro c0 c1 c2 i3 i4 i5 v H locs ls kc0 kc1 kc2 h hP hS hl
  unfold f_X2_follow at h
  refine lv_aload_n (pc := 0) C.1 C.2.1 dX2_follow_0 rfl (lv_at hl 0 rfl) ?_
  refine lv_iload_n (pc := 1) C.1 C.2.1 dX2_follow_1 rfl (lv_at hl 3 rfl) ?_
  refine x_put (pc := 2) C hI hP hS ck_2 0 fl_X2_9 (by decide) rfl rfl kc0 rfl rfl dX2_follow_2 (fun H locs hP hS => ?_)
  obtain ⟨v1, h, hP⟩ := nv_p (P := fun z => va_P D vwCl (wd LC cy ad z) H) h hP
  refine lv_aload_n (pc := 5) C.1 C.2.1 dX2_follow_5 rfl (lv_at hl 0 rfl) ?_
  refine lv_iconst (pc := 6) (v := 0) C.1 C.2.1 dX2_follow_6 (by decide) ?_
  refine x_put (pc := 7) C hI hP hS ck_2 1 fl_X2_15 (by decide) rfl rfl kc0 rfl rfl dX2_follow_7 (fun H locs hP hS => ?_)
  obtain ⟨v2, h, hP⟩ := nv_p (P := fun z => va_P D vwCl (wd LC cy ad z) H) h hP
  refine lv_aload_n (pc := 10) C.1 C.2.1 dX2_follow_10 rfl (lv_at hl 0 rfl) ?_
  refine lv_iconst (pc := 11) (v := 0) C.1 C.2.1 dX2_follow_11 (by decide) ?_
  refine x_put (pc := 12) C hI hP hS ck_2 2 fl_X2_18 (by decide) rfl rfl kc0 rfl rfl dX2_follow_12 (fun H locs hP hS => ?_)
  obtain ⟨v3, h, hP⟩ := nv_p (P := fun z => va_P D vwCl (wd LC cy ad z) H) h hP
  refine lv_aload_n (pc := 15) C.1 C.2.1 dX2_follow_15 rfl (lv_at hl 0 rfl) ?_
  refine lv_iconst (pc := 16) (v := 0) C.1 C.2.1 dX2_follow_16 (by decide) ?_
  refine x_put (pc := 17) C hI hP hS ck_2 3 fl_X2_21 (by decide) rfl rfl kc0 rfl rfl dX2_follow_17 (fun H locs hP hS => ?_)
  obtain ⟨v4, h, hP⟩ := nv_p (P := fun z => va_P D vwCl (wd LC cy ad z) H) h hP
  refine lv_aload_n (pc := 20) C.1 C.2.1 dX2_follow_20 rfl (lv_at hl 0 rfl) ?_
  refine lv_iconst (pc := 21) (v := 0) C.1 C.2.1 dX2_follow_21 (by decide) ?_
  refine x_put (pc := 22) C hI hP hS ck_2 4 fl_X2_24 (by decide) rfl rfl kc0 rfl rfl dX2_follow_22 (fun H locs hP hS => ?_)
  obtain ⟨v5, h, hP⟩ := nv_p (P := fun z => va_P D vwCl (wd LC cy ad z) H) h hP
  refine lv_aload_n (pc := 25) C.1 C.2.1 dX2_follow_25 rfl (lv_at hl 0 rfl) ?_
  refine lv_bipush (pc := 26) (v := (-6)) C.1 C.2.1 dX2_follow_26 (by decide) ?_
  refine x_put (pc := 28) C hI hP hS ck_2 5 fl_X2_27 (by decide) rfl rfl kc0 rfl rfl dX2_follow_28 (fun H locs hP hS => ?_)
  obtain ⟨v6, h, hP⟩ := nv_p (P := fun z => va_P D vwCl (wd LC cy ad z) H) h hP
  refine lv_iconst (pc := 31) (v := 0) C.1 C.2.1 dX2_follow_31 (by decide) ?_
  refine lv_istore (pc := 32) (lv' := [(6, .int 0), (0, .ref (ad c0)), (1, .ref (ad c1)), (2, .ref (ad c2)), (3, .int i3), (4, .int i4), (5, .int i5)]) C.1 C.2.1 dX2_follow_32 hl (by decide) rfl (fun ls hl => ?_)
  refine lv_iload (pc := 34) C.1 C.2.1 dX2_follow_34 (lv_at hl 5 rfl) ?_
  refine lv_istore (pc := 36) (lv' := [(7, .int i4), (6, .int 0), (0, .ref (ad c0)), (1, .ref (ad c1)), (2, .ref (ad c2)), (3, .int i3), (4, .int i4), (5, .int i5)]) C.1 C.2.1 dX2_follow_36 hl (by decide) rfl (fun ls hl => ?_)
  refine w_X2_follow_l38 C hI hr hlk hR FU c0 c1 c2 i5 0 i4 v6 _ _ _ kc0 kc1 kc2 h hP hS (lv_sub hl [2, 3, 4, 7, 1, 0] rfl)
set_option maxRecDepth 100000 in
theorem m_X2_follow (hI : wI LC ad) {c0 : Nat} {c1 : Nat} {c2 : Nat} {i3 : Int32} {i4 : Int32} {i5 : Int32} {v : VV} {vZ : VV} (kc0 : wk LC c0 2) (kc1 : wk LC c1 6) (kc2 : wk LC c2 0) (h : F_X2_follow c0 c1 c2 i3 i4 i5 v = some vZ) : Met l yX2_follow (Cond.code yX2_follow cX2_follow 8 none :: wsG) (rmL 2) (pcG LC cy ad D [.ref (ad c0), .ref (ad c1), .ref (ad c2), .int i3, .int i4, .int i5] v) (qvG LC cy ad D vZ) 0 0 (wA LC ad) := by
  refine Met.ofW (cc := cX2_follow) (maxL := 8) (ret := none) (by decide) rfl ?_
  intro p e s m args below meth c s₁ B hml hv
  obtain ⟨rfl, hP, hK⟩ := hv
  have hts := atoms_spec (ws := Cond.code yX2_follow cX2_follow 8 none :: wsG) B.pre
  have hown : s.vm.findClass RX2 = some m.cls := findClass_of_methodNamed B.named
  have C : Cx p s m _ c cX2_follow 8 RX2 D cy := ⟨B.exec, B.bytes, hml, hown, fun w hw => hts w (List.mem_cons_of_mem _ hw), hK⟩
  have hl := lv_entry ([.ref (ad c0), .ref (ad c1), .ref (ad c2), .int i3, .int i4, .int i5]) (n := 8) (Nat.le_of_ble_eq_true rfl)
  rw [lg_entry_eq]
  generalize (lg_sl ([.ref (ad c0), .ref (ad c1), .ref (ad c2), .int i3, .int i4, .int i5]) ++ List.replicate (8 - (lg_sl ([.ref (ad c0), .ref (ad c1), .ref (ad c2), .int i3, .int i4, .int i5])).length) Slot.unset).toArray = ls at hl ⊢
  have hl : lv_has ls 8 [(0, .ref (ad c0)), (1, .ref (ad c1)), (2, .ref (ad c2)), (3, .int i3), (4, .int i4), (5, .int i5)] := hl
  exact w_X2_follow C hI B.returns B.notSynchronized (RoL_rm _) c0 c1 c2 i3 i4 i5 v _ _ _ kc0 kc1 kc2 h hP va_S.rf (lv_sub hl [0, 1, 2, 3, 4, 5] rfl)
def f_X9_shelf (c0 : Nat) (i1 : Int32) (i2 : Int32) (v : VV) : Option (Nat × VV) :=
  gd (inB i1 (lnC (rfC c0 0)) = true) <|
  gd (inB i2 (lnC (rfC (rfC (rfC c0 0) (Int32.toNatClampNeg i1)) 0)) = true) <|
  some ((rfC (rfC (rfC (rfC c0 0) (Int32.toNatClampNeg i1)) 0) (Int32.toNatClampNeg i2)), v)
abbrev F_X9_shelf (c0 : Nat) (i1 : Int32) (i2 : Int32) (v : VV) : Option (Nat × VV) := f_X9_shelf c0 i1 i2 v
set_option maxHeartbeats 4000000 in
set_option maxRecDepth 100000 in
theorem w_X9_shelf (C : Cx p s m args c cX9_shelf 3 RX9 D cy) (hI : wI LC ad) (hr : meth.sig.returnType = some (.object "StarTrade$Shelf")) (hlk : meth.locks = false) (hR : RoL 1 R) {rZ : Nat} {vZ : VV} : ∀ (c0 : Nat) (i1 : Int32) (i2 : Int32) (v : VV) (H : Heap) (locs : List Loc) (ls : Array Slot), wk LC c0 9 → f_X9_shelf c0 i1 i2 v = some (rZ, vZ) → va_P D vwCl (wd LC cy ad v) H → va_S (wA LC ad) s.heap H locs → lv_has ls 3 [(0, .ref (ad c0)), (1, .int i1), (2, .int i2)] → W p l e R s m args below meth c H locs 0 0 (MQ below (qrG LC cy ad D rZ vZ) args s 0 0 (wA LC ad)) (F0 m 0 ls []) := by
  intro c0 i1 i2 v H locs ls kc0 h hP hS hl
  unfold f_X9_shelf at h
  refine lv_aload_n (pc := 0) C.1 C.2.1 dX9_shelf_0 rfl (lv_at hl 0 rfl) ?_
  refine x_getr (pc := 1) C hP ck_9 0 fl_X9_11 (by decide) rfl kc0 dX9_shelf_1 ?_
  have k1 : wk LC (rfC c0 0) 14 := wt_f wT_C kc0 0 (by decide) rfl rfl
  refine lv_iload_n (pc := 4) C.1 C.2.1 dX9_shelf_4 rfl (lv_at hl 1 rfl) ?_
  obtain ⟨g2, h⟩ := gd_e h
  refine x_aald (pc := 5) C hP k1 (by decide) (by decide) (inB_vp g2) dX9_shelf_5 ?_
  have k3 : wk LC (rfC (rfC c0 0) (Int32.toNatClampNeg i1)) 4 := wt_a wT_C k1 (by decide) (inB_vp g2) rfl
  refine x_getr (pc := 6) C hP ck_4 0 fl_X9_36 (by decide) rfl k3 dX9_shelf_6 ?_
  have k4 : wk LC (rfC (rfC (rfC c0 0) (Int32.toNatClampNeg i1)) 0) 15 := wt_f wT_C k3 0 (by decide) rfl rfl
  refine lv_iload_n (pc := 9) C.1 C.2.1 dX9_shelf_9 rfl (lv_at hl 2 rfl) ?_
  obtain ⟨g5, h⟩ := gd_e h
  refine x_aald (pc := 10) C hP k4 (by decide) (by decide) (inB_vp g5) dX9_shelf_10 ?_
  have k6 : wk LC (rfC (rfC (rfC (rfC c0 0) (Int32.toNatClampNeg i1)) 0) (Int32.toNatClampNeg i2)) 6 := wt_a wT_C k4 (by decide) (inB_vp g5) rfl
  exact x_rret (pc := 11) C hr hlk hP hS h dX9_shelf_11
set_option maxRecDepth 100000 in
theorem m_X9_shelf (hI : wI LC ad) {c0 : Nat} {i1 : Int32} {i2 : Int32} {v : VV} {rZ : Nat} {vZ : VV} (kc0 : wk LC c0 9) (h : F_X9_shelf c0 i1 i2 v = some (rZ, vZ)) : Met l yX9_shelf (Cond.code yX9_shelf cX9_shelf 3 (some (.object "StarTrade$Shelf")) :: wsG) (rmL 1) (pcG LC cy ad D [.ref (ad c0), .int i1, .int i2] v) (qrG LC cy ad D rZ vZ) 0 0 (wA LC ad) := by
  refine Met.ofW (cc := cX9_shelf) (maxL := 3) (ret := (some (.object "StarTrade$Shelf"))) (by decide) rfl ?_
  intro p e s m args below meth c s₁ B hml hv
  obtain ⟨rfl, hP, hK⟩ := hv
  have hts := atoms_spec (ws := Cond.code yX9_shelf cX9_shelf 3 (some (.object "StarTrade$Shelf")) :: wsG) B.pre
  have hown : s.vm.findClass RX9 = some m.cls := findClass_of_methodNamed B.named
  have C : Cx p s m _ c cX9_shelf 3 RX9 D cy := ⟨B.exec, B.bytes, hml, hown, fun w hw => hts w (List.mem_cons_of_mem _ hw), hK⟩
  have hl := lv_entry ([.ref (ad c0), .int i1, .int i2]) (n := 3) (Nat.le_of_ble_eq_true rfl)
  rw [lg_entry_eq]
  generalize (lg_sl ([.ref (ad c0), .int i1, .int i2]) ++ List.replicate (3 - (lg_sl ([.ref (ad c0), .int i1, .int i2])).length) Slot.unset).toArray = ls at hl ⊢
  have hl : lv_has ls 3 [(0, .ref (ad c0)), (1, .int i1), (2, .int i2)] := hl
  exact w_X9_shelf C hI B.returns B.notSynchronized (RoL_rm _) c0 i1 i2 v _ _ _ kc0 h hP va_S.rf (lv_sub hl [0, 1, 2] rfl)
theorem wr_X9_shelf {c0 n : Nat} {i1 i2 : Int32} {v v1 : VV} (hc : F_X9_shelf c0 i1 i2 v = some (n, v1)) (k0 : wk LC c0 9) : wk LC n 6 := by
  unfold F_X9_shelf f_X9_shelf at hc
  obtain ⟨g1, hc⟩ := gd_e hc
  obtain ⟨g2, hc⟩ := gd_e hc
  cases hc
  exact wt_a wT_C (wt_f wT_C (wt_a wT_C (wt_f wT_C k0 0 (by decide) rfl rfl : wk LC (rfC c0 0) 14) (by decide) (inB_vp g1) rfl : wk LC (rfC (rfC c0 0) (Int32.toNatClampNeg i1)) 4) 0 (by decide) rfl rfl : wk LC (rfC (rfC (rfC c0 0) (Int32.toNatClampNeg i1)) 0) 15) (by decide) (inB_vp g2) rfl
def f_X9_openLength (c0 : Nat) (i1 : Int32) (i2 : Int32) (v : VV) : Option (Int32 × VV) :=
  gd (inB i1 (lnC (rfC c0 0)) = true) <|
  if ((v (rfC (rfC c0 0) (Int32.toNatClampNeg i1)) 4) = 0) then
    gd (inB i2 (lnC (rfC c0 0)) = true) <|
    if ((v (rfC (rfC c0 0) (Int32.toNatClampNeg i2)) 4) = 0) then
      gd (inB i1 (lnC (rfC c0 1)) = true) <|
      gd (inB i2 (lnC (rfC (rfC c0 1) (Int32.toNatClampNeg i1))) = true) <|
      some ((v (rfC (rfC c0 1) (Int32.toNatClampNeg i1)) (Int32.toNatClampNeg i2)), v)
    else
      some (0, v)
  else
    some (0, v)
abbrev F_X9_openLength (c0 : Nat) (i1 : Int32) (i2 : Int32) (v : VV) : Option (Int32 × VV) := f_X9_openLength c0 i1 i2 v
set_option maxHeartbeats 4000000 in
set_option maxRecDepth 100000 in
theorem w_X9_openLength (C : Cx p s m args c cX9_openLength 3 RX9 D cy) (hI : wI LC ad) (hr : meth.sig.returnType = some .int) (hlk : meth.locks = false) (hR : RoL 1 R) {rZ : Int32} {vZ : VV} : ∀ (c0 : Nat) (i1 : Int32) (i2 : Int32) (v : VV) (H : Heap) (locs : List Loc) (ls : Array Slot), wk LC c0 9 → f_X9_openLength c0 i1 i2 v = some (rZ, vZ) → va_P D vwCl (wd LC cy ad v) H → va_S (wA LC ad) s.heap H locs → lv_has ls 3 [(0, .ref (ad c0)), (1, .int i1), (2, .int i2)] → W p l e R s m args below meth c H locs 0 0 (MQ below (qiG LC cy ad D rZ vZ) args s 0 0 (wA LC ad)) (F0 m 0 ls []) := by
  intro c0 i1 i2 v H locs ls kc0 h hP hS hl
  unfold f_X9_openLength at h
  refine lv_aload_n (pc := 0) C.1 C.2.1 dX9_openLength_0 rfl (lv_at hl 0 rfl) ?_
  refine x_getr (pc := 1) C hP ck_9 0 fl_X9_11 (by decide) rfl kc0 dX9_openLength_1 ?_
  have k1 : wk LC (rfC c0 0) 14 := wt_f wT_C kc0 0 (by decide) rfl rfl
  refine lv_iload_n (pc := 4) C.1 C.2.1 dX9_openLength_4 rfl (lv_at hl 1 rfl) ?_
  obtain ⟨g2, h⟩ := gd_e h
  refine x_aald (pc := 5) C hP k1 (by decide) (by decide) (inB_vp g2) dX9_openLength_5 ?_
  have k3 : wk LC (rfC (rfC c0 0) (Int32.toNatClampNeg i1)) 4 := wt_a wT_C k1 (by decide) (inB_vp g2) rfl
  refine x_geti (pc := 6) C hP ck_4 4 fl_X9_40 (by decide) rfl k3 dX9_openLength_6 ?_
  refine lv_if_ne (pc := 9) (tgt := 24) C.1 C.2.1 dX9_openLength_9 (by decide) (fun b9 => ?_) (fun b9 => ?_)
  · replace h := if_f h b9
    refine lv_iconst (pc := 24) (v := 0) C.1 C.2.1 dX9_openLength_24 (by decide) ?_
    refine lv_goto (pc := 25) (tgt := 36) C.1 C.2.1 dX9_openLength_25 (by decide) ?_
    exact x_iret (pc := 36) C hr hlk hP hS h dX9_openLength_36
  · replace h := if_t h b9
    refine lv_aload_n (pc := 12) C.1 C.2.1 dX9_openLength_12 rfl (lv_at hl 0 rfl) ?_
    refine x_getr (pc := 13) C hP ck_9 0 fl_X9_11 (by decide) rfl kc0 dX9_openLength_13 ?_
    have k4 : wk LC (rfC c0 0) 14 := wt_f wT_C kc0 0 (by decide) rfl rfl
    refine lv_iload_n (pc := 16) C.1 C.2.1 dX9_openLength_16 rfl (lv_at hl 2 rfl) ?_
    obtain ⟨g5, h⟩ := gd_e h
    refine x_aald (pc := 17) C hP k4 (by decide) (by decide) (inB_vp g5) dX9_openLength_17 ?_
    have k6 : wk LC (rfC (rfC c0 0) (Int32.toNatClampNeg i2)) 4 := wt_a wT_C k4 (by decide) (inB_vp g5) rfl
    refine x_geti (pc := 18) C hP ck_4 4 fl_X9_40 (by decide) rfl k6 dX9_openLength_18 ?_
    refine lv_if_eq (pc := 21) (tgt := 28) C.1 C.2.1 dX9_openLength_21 (by decide) (fun b21 => ?_) (fun b21 => ?_)
    · replace h := if_t h b21
      refine lv_aload_n (pc := 28) C.1 C.2.1 dX9_openLength_28 rfl (lv_at hl 0 rfl) ?_
      refine x_getr (pc := 29) C hP ck_9 1 fl_X9_22 (by decide) rfl kc0 dX9_openLength_29 ?_
      have k7 : wk LC (rfC c0 1) 18 := wt_f wT_C kc0 1 (by decide) rfl rfl
      refine lv_iload_n (pc := 32) C.1 C.2.1 dX9_openLength_32 rfl (lv_at hl 1 rfl) ?_
      obtain ⟨g8, h⟩ := gd_e h
      refine x_aald (pc := 33) C hP k7 (by decide) (by decide) (inB_vp g8) dX9_openLength_33 ?_
      have k9 : wk LC (rfC (rfC c0 1) (Int32.toNatClampNeg i1)) 12 := wt_a wT_C k7 (by decide) (inB_vp g8) rfl
      refine lv_iload_n (pc := 34) C.1 C.2.1 dX9_openLength_34 rfl (lv_at hl 2 rfl) ?_
      obtain ⟨g10, h⟩ := gd_e h
      refine x_iald (pc := 35) C hP k9 (inB_vp g10) dX9_openLength_35 ?_
      exact x_iret (pc := 36) C hr hlk hP hS h dX9_openLength_36
    · replace h := if_f h b21
      refine lv_iconst (pc := 24) (v := 0) C.1 C.2.1 dX9_openLength_24 (by decide) ?_
      refine lv_goto (pc := 25) (tgt := 36) C.1 C.2.1 dX9_openLength_25 (by decide) ?_
      exact x_iret (pc := 36) C hr hlk hP hS h dX9_openLength_36
set_option maxRecDepth 100000 in
theorem m_X9_openLength (hI : wI LC ad) {c0 : Nat} {i1 : Int32} {i2 : Int32} {v : VV} {rZ : Int32} {vZ : VV} (kc0 : wk LC c0 9) (h : F_X9_openLength c0 i1 i2 v = some (rZ, vZ)) : Met l yX9_openLength (Cond.code yX9_openLength cX9_openLength 3 (some .int) :: wsG) (rmL 1) (pcG LC cy ad D [.ref (ad c0), .int i1, .int i2] v) (qiG LC cy ad D rZ vZ) 0 0 (wA LC ad) := by
  refine Met.ofW (cc := cX9_openLength) (maxL := 3) (ret := (some .int)) (by decide) rfl ?_
  intro p e s m args below meth c s₁ B hml hv
  obtain ⟨rfl, hP, hK⟩ := hv
  have hts := atoms_spec (ws := Cond.code yX9_openLength cX9_openLength 3 (some .int) :: wsG) B.pre
  have hown : s.vm.findClass RX9 = some m.cls := findClass_of_methodNamed B.named
  have C : Cx p s m _ c cX9_openLength 3 RX9 D cy := ⟨B.exec, B.bytes, hml, hown, fun w hw => hts w (List.mem_cons_of_mem _ hw), hK⟩
  have hl := lv_entry ([.ref (ad c0), .int i1, .int i2]) (n := 3) (Nat.le_of_ble_eq_true rfl)
  rw [lg_entry_eq]
  generalize (lg_sl ([.ref (ad c0), .int i1, .int i2]) ++ List.replicate (3 - (lg_sl ([.ref (ad c0), .int i1, .int i2])).length) Slot.unset).toArray = ls at hl ⊢
  have hl : lv_has ls 3 [(0, .ref (ad c0)), (1, .int i1), (2, .int i2)] := hl
  exact w_X9_openLength C hI B.returns B.notSynchronized (RoL_rm _) c0 i1 i2 v _ _ _ kc0 h hP va_S.rf (lv_sub hl [0, 1, 2] rfl)
end
