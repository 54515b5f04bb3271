section
variable {p : Program} {l : Launch} {e : Env} {R : Room} {s : State} {m : MethodId} {args : Array Value} {below : List Frame} {meth : Method} {c : Code} {D : va_G} {cy : Nat → ClassId} {ad : Nat → Nat}
def f_X0_move (c0 : Nat) (i1 : Int32) (i2 : Int32) (v : VV) : Option (VV) :=
  gd (inB i1 (lnC (rfC c0 0)) = true) <|
  gd (inB i2 (lnC (rfC c0 0)) = true) <|
  nv (wu v (rfC c0 0) (Int32.toNatClampNeg i2) (v (rfC c0 0) (Int32.toNatClampNeg i1))) fun v5 =>
  gd (inB i1 (lnC (rfC c0 1)) = true) <|
  gd (inB i2 (lnC (rfC c0 1)) = true) <|
  nv (wu v5 (rfC c0 1) (Int32.toNatClampNeg i2) (v5 (rfC c0 1) (Int32.toNatClampNeg i1))) fun v10 =>
  gd (inB i1 (lnC (rfC c0 2)) = true) <|
  gd (inB i2 (lnC (rfC c0 2)) = true) <|
  nv (wu v10 (rfC c0 2) (Int32.toNatClampNeg i2) (v10 (rfC c0 2) (Int32.toNatClampNeg i1))) fun v15 =>
  some v15
abbrev F_X0_move (c0 : Nat) (i1 : Int32) (i2 : Int32) (v : VV) : Option (VV) := f_X0_move c0 i1 i2 v
set_option maxHeartbeats 4000000 in
set_option maxRecDepth 100000 in
theorem w_X0_move (C : Cx p s m args c cX0_move 3 RX0 D cy) (hI : wI LC ad) (hr : meth.sig.returnType = none) (hlk : meth.locks = false) (hR : RoL 1 R) {vZ : VV} : ∀ (c0 : Nat) (i1 : Int32) (i2 : Int32) (v : VV) (H : Heap) (locs : List Loc) (ls : Array Slot), wk LC c0 0 → f_X0_move c0 i1 i2 v = some vZ → va_P D vwCl (wd LC cy ad v) H → va_S (wA LC ad) s.heap H locs → lv_has ls 3 [(0, .ref (ad c0)), (1, .int i1), (2, .int i2)] → W p l e R s m args below meth c H locs 0 0 (MQ below (qvG LC cy ad D vZ) args s 0 0 (wA LC ad)) (F0 m 0 ls []) := by
  intro c0 i1 i2 v H locs ls kc0 h hP hS hl
  unfold f_X0_move at h
  refine lv_aload_n (pc := 0) C.1 C.2.1 dX0_move_0 rfl (lv_at hl 0 rfl) ?_
  refine x_getr (pc := 1) C hP ck_0 0 fl_X0_9 (by decide) rfl kc0 dX0_move_1 ?_
  have k1 : wk LC (rfC c0 0) 12 := wt_f wT_C kc0 0 (by decide) rfl rfl
  refine lv_iload_n (pc := 4) C.1 C.2.1 dX0_move_4 rfl (lv_at hl 2 rfl) ?_
  refine lv_aload_n (pc := 5) C.1 C.2.1 dX0_move_5 rfl (lv_at hl 0 rfl) ?_
  refine x_getr (pc := 6) C hP ck_0 0 fl_X0_9 (by decide) rfl kc0 dX0_move_6 ?_
  have k2 : wk LC (rfC c0 0) 12 := wt_f wT_C kc0 0 (by decide) rfl rfl
  refine lv_iload_n (pc := 9) C.1 C.2.1 dX0_move_9 rfl (lv_at hl 1 rfl) ?_
  obtain ⟨g3, h⟩ := gd_e h
  refine x_iald (pc := 10) C hP k2 (inB_vp g3) dX0_move_10 ?_
  obtain ⟨g4, h⟩ := gd_e h
  refine x_iast (pc := 11) C hI hP hS k1 (inB_vp g4) dX0_move_11 (fun H locs hP hS => ?_)
  obtain ⟨v5, h, hP⟩ := nv_p (P := fun z => va_P D vwCl (wd LC cy ad z) H) h hP
  refine lv_aload_n (pc := 12) C.1 C.2.1 dX0_move_12 rfl (lv_at hl 0 rfl) ?_
  refine x_getr (pc := 13) C hP ck_0 1 fl_X0_15 (by decide) rfl kc0 dX0_move_13 ?_
  have k6 : wk LC (rfC c0 1) 12 := wt_f wT_C kc0 1 (by decide) rfl rfl
  refine lv_iload_n (pc := 16) C.1 C.2.1 dX0_move_16 rfl (lv_at hl 2 rfl) ?_
  refine lv_aload_n (pc := 17) C.1 C.2.1 dX0_move_17 rfl (lv_at hl 0 rfl) ?_
  refine x_getr (pc := 18) C hP ck_0 1 fl_X0_15 (by decide) rfl kc0 dX0_move_18 ?_
  have k7 : wk LC (rfC c0 1) 12 := wt_f wT_C kc0 1 (by decide) rfl rfl
  refine lv_iload_n (pc := 21) C.1 C.2.1 dX0_move_21 rfl (lv_at hl 1 rfl) ?_
  obtain ⟨g8, h⟩ := gd_e h
  refine x_iald (pc := 22) C hP k7 (inB_vp g8) dX0_move_22 ?_
  obtain ⟨g9, h⟩ := gd_e h
  refine x_iast (pc := 23) C hI hP hS k6 (inB_vp g9) dX0_move_23 (fun H locs hP hS => ?_)
  obtain ⟨v10, h, hP⟩ := nv_p (P := fun z => va_P D vwCl (wd LC cy ad z) H) h hP
  refine lv_aload_n (pc := 24) C.1 C.2.1 dX0_move_24 rfl (lv_at hl 0 rfl) ?_
  refine x_getr (pc := 25) C hP ck_0 2 fl_X0_18 (by decide) rfl kc0 dX0_move_25 ?_
  have k11 : wk LC (rfC c0 2) 12 := wt_f wT_C kc0 2 (by decide) rfl rfl
  refine lv_iload_n (pc := 28) C.1 C.2.1 dX0_move_28 rfl (lv_at hl 2 rfl) ?_
  refine lv_aload_n (pc := 29) C.1 C.2.1 dX0_move_29 rfl (lv_at hl 0 rfl) ?_
  refine x_getr (pc := 30) C hP ck_0 2 fl_X0_18 (by decide) rfl kc0 dX0_move_30 ?_
  have k12 : wk LC (rfC c0 2) 12 := wt_f wT_C kc0 2 (by decide) rfl rfl
  refine lv_iload_n (pc := 33) C.1 C.2.1 dX0_move_33 rfl (lv_at hl 1 rfl) ?_
  obtain ⟨g13, h⟩ := gd_e h
  refine x_iald (pc := 34) C hP k12 (inB_vp g13) dX0_move_34 ?_
  obtain ⟨g14, h⟩ := gd_e h
  refine x_iast (pc := 35) C hI hP hS k11 (inB_vp g14) dX0_move_35 (fun H locs hP hS => ?_)
  obtain ⟨v15, h, hP⟩ := nv_p (P := fun z => va_P D vwCl (wd LC cy ad z) H) h hP
  exact x_vret (pc := 36) C hr hlk hP hS h dX0_move_36
set_option maxRecDepth 100000 in
theorem m_X0_move (hI : wI LC ad) {c0 : Nat} {i1 : Int32} {i2 : Int32} {v : VV} {vZ : VV} (kc0 : wk LC c0 0) (h : F_X0_move c0 i1 i2 v = some vZ) : Met l yX0_move (Cond.code yX0_move cX0_move 3 none :: wsG) (rmL 1) (pcG LC cy ad D [.ref (ad c0), .int i1, .int i2] v) (qvG LC cy ad D vZ) 0 0 (wA LC ad) := by
  refine Met.ofW (cc := cX0_move) (maxL := 3) (ret := none) (by decide) rfl ?_
  intro p e s m args below meth c s₁ B hml hv
  obtain ⟨rfl, hP, hK⟩ := hv
  have hts := atoms_spec (ws := Cond.code yX0_move cX0_move 3 none :: wsG) B.pre
  have hown : s.vm.findClass RX0 = some m.cls := findClass_of_methodNamed B.named
  have C : Cx p s m _ c cX0_move 3 RX0 D cy := ⟨B.exec, B.bytes, hml, hown, fun w hw => hts w (List.mem_cons_of_mem _ hw), hK⟩
  have hl := lv_entry ([.ref (ad c0), .int i1, .int i2]) (n := 3) (Nat.le_of_ble_eq_true rfl)
  rw [lg_entry_eq]
  generalize (lg_sl ([.ref (ad c0), .int i1, .int i2]) ++ List.replicate (3 - (lg_sl ([.ref (ad c0), .int i1, .int i2])).length) Slot.unset).toArray = ls at hl ⊢
  have hl : lv_has ls 3 [(0, .ref (ad c0)), (1, .int i1), (2, .int i2)] := hl
  exact w_X0_move C hI B.returns B.notSynchronized (RoL_rm _) c0 i1 i2 v _ _ _ kc0 h hP va_S.rf (lv_sub hl [0, 1, 2] rfl)
def f_X0_add_l16 (k50 : Nat → Int32 → Int32 → Int32 → Int32 → VV → Option (VV)) : Nat → Nat → Int32 → Int32 → Int32 → Int32 → VV → Option (VV)
  | 0, _, _, _, _, _, _ => none
  | n + 1, c0, i1, i2, i3, i4, v =>
    if (i4 ≤ 0) then
      k50 c0 i1 i2 i3 i4 v
    else
      gd (inB (i4 - 1) (lnC (rfC c0 0)) = true) <|
      if ((v (rfC c0 0) (Int32.toNatClampNeg (i4 - 1))) ≤ i1) then
        k50 c0 i1 i2 i3 i4 v
      else
        (F_X0_move c0 (i4 - 1) i4 v).bind fun v5 =>
        nv (i4 + (-1)) fun x6 =>
        f_X0_add_l16 k50 n c0 i1 i2 i3 x6 v5
def f_X0_add_b50 (c0 : Nat) (i1 : Int32) (i2 : Int32) (i3 : Int32) (i4 : Int32) (v : VV) : Option (VV) :=
  gd (inB i4 (lnC (rfC c0 0)) = true) <|
  nv (wu v (rfC c0 0) (Int32.toNatClampNeg i4) i1) fun v10 =>
  gd (inB i4 (lnC (rfC c0 1)) = true) <|
  nv (wu v10 (rfC c0 1) (Int32.toNatClampNeg i4) i2) fun v13 =>
  gd (inB i4 (lnC (rfC c0 2)) = true) <|
  nv (wu v13 (rfC c0 2) (Int32.toNatClampNeg i4) i3) fun v16 =>
  nv (wu v16 c0 3 ((v16 c0 3) + 1)) fun v17 =>
  some v17
def f_X0_add (c0 : Nat) (i1 : Int32) (i2 : Int32) (i3 : Int32) (v : VV) : Option (VV) :=
  if ((v c0 3) < 20) then
    nv ((v c0 3)) fun x1 =>
    f_X0_add_l16 (fun c0_7 i1_7 i2_7 i3_7 i4_7 v_7 =>
    f_X0_add_b50 c0_7 i1_7 i2_7 i3_7 i4_7 v_7) FU c0 i1 i2 i3 x1 v
  else
    some v
abbrev F_X0_add (c0 : Nat) (i1 : Int32) (i2 : Int32) (i3 : Int32) (v : VV) : Option (VV) := f_X0_add c0 i1 i2 i3 v
set_option maxHeartbeats 4000000 in
set_option maxRecDepth 100000 in
theorem w_X0_add_l16 (C : Cx p s m args c cX0_add 5 RX0 D cy) (hI : wI LC ad) (hr : meth.sig.returnType = none) (hlk : meth.locks = false) (hR : RoL 2 R) (k50 : Nat → Int32 → Int32 → Int32 → Int32 → VV → Option (VV)) {vZ : VV} (h50 : ∀ (c0 : Nat) (i1 : Int32) (i2 : Int32) (i3 : Int32) (i4 : Int32) (v : VV) (H : Heap) (locs : List Loc) (ls : Array Slot), wk LC c0 0 → k50 c0 i1 i2 i3 i4 v = some vZ → va_P D vwCl (wd LC cy ad v) H → va_S (wA LC ad) s.heap H locs → lv_has ls 5 [(0, .ref (ad c0)), (1, .int i1), (2, .int i2), (3, .int i3), (4, .int i4)] → W p l e R s m args below meth c H locs 0 0 (MQ below (qvG LC cy ad D vZ) args s 0 0 (wA LC ad)) (F0 m 50 ls [])) : ∀ (n : Nat) (c0 : Nat) (i1 : Int32) (i2 : Int32) (i3 : Int32) (i4 : Int32) (v : VV) (H : Heap) (locs : List Loc) (ls : Array Slot), wk LC c0 0 → f_X0_add_l16 k50 n c0 i1 i2 i3 i4 v = some vZ → va_P D vwCl (wd LC cy ad v) H → va_S (wA LC ad) s.heap H locs → lv_has ls 5 [(0, .ref (ad c0)), (1, .int i1), (2, .int i2), (3, .int i3), (4, .int i4)] → W p l e R s m args below meth c H locs 0 0 (MQ below (qvG LC cy ad D vZ) args s 0 0 (wA LC ad)) (F0 m 16 ls []) := by
  intro n
  induction n with
  | zero => intro c0 i1 i2 i3 i4 v H locs ls kc0 h hP hS hl; exact absurd h (by simp [f_X0_add_l16])
  | succ n ih =>
    intro c0 i1 i2 i3 i4 v H locs ls kc0 h hP hS hl
    rw [f_X0_add_l16] at h
    refine lv_iload (pc := 16) C.1 C.2.1 dX0_add_16 (lv_at hl 4 rfl) ?_
    refine lv_if_le (pc := 18) (tgt := 50) C.1 C.2.1 dX0_add_18 (by decide) (fun b18 => ?_) (fun b18 => ?_)
    · replace h := if_t h b18
      exact h50 c0 i1 i2 i3 i4 v _ _ _ kc0 h hP hS (lv_sub hl [0, 1, 2, 3, 4] rfl)
    · replace h := if_f h b18
      refine lv_aload_n (pc := 21) C.1 C.2.1 dX0_add_21 rfl (lv_at hl 0 rfl) ?_
      refine x_getr (pc := 22) C hP ck_0 0 fl_X0_9 (by decide) rfl kc0 dX0_add_22 ?_
      have k2 : wk LC (rfC c0 0) 12 := wt_f wT_C kc0 0 (by decide) rfl rfl
      refine lv_iload (pc := 25) C.1 C.2.1 dX0_add_25 (lv_at hl 4 rfl) ?_
      refine lv_iconst (pc := 27) (v := 1) C.1 C.2.1 dX0_add_27 (by decide) ?_
      refine lv_isub (pc := 28) C.1 C.2.1 dX0_add_28 ?_
      obtain ⟨g3, h⟩ := gd_e h
      refine x_iald (pc := 29) C hP k2 (inB_vp g3) dX0_add_29 ?_
      refine lv_iload_n (pc := 30) C.1 C.2.1 dX0_add_30 rfl (lv_at hl 1 rfl) ?_
      refine lv_icmp_le (pc := 31) (tgt := 50) C.1 C.2.1 dX0_add_31 (by decide) (fun b31 => ?_) (fun b31 => ?_)
      · replace h := if_t h b31
        exact h50 c0 i1 i2 i3 i4 v _ _ _ kc0 h hP hS (lv_sub hl [0, 1, 2, 3, 4] rfl)
      · replace h := if_f h b31
        refine lv_aload_n (pc := 34) C.1 C.2.1 dX0_add_34 rfl (lv_at hl 0 rfl) ?_
        refine lv_iload (pc := 35) C.1 C.2.1 dX0_add_35 (lv_at hl 4 rfl) ?_
        refine lv_iconst (pc := 37) (v := 1) C.1 C.2.1 dX0_add_37 (by decide) ?_
        refine lv_isub (pc := 38) C.1 C.2.1 dX0_add_38 ?_
        refine lv_iload (pc := 39) C.1 C.2.1 dX0_add_39 (lv_at hl 4 rfl) ?_
        obtain ⟨v5, hc4, h⟩ := bd_e h
        refine x_callv (pc := 41) C hP hS mi_X0_move ck_0 kc0 ml_X0_25 (hR.le (by decide)) (Nat.zero_le _) (Nat.zero_le _) [.int (i4 - 1), .int i4] rfl hl.1 rfl (Nat.le_of_ble_eq_true rfl) dX0_add_41 (m_X0_move hI kc0 hc4) (fun H locs hP hS => ?_)
        obtain ⟨x6, ex6⟩ : ∃ y : Int32, y = i4 + (-1) := ⟨_, rfl⟩
        replace h := nv_e h ex6
        refine lv_iinc (pc := 44) (v := x6) (lv' := [(4, .int x6), (0, .ref (ad c0)), (1, .int i1), (2, .int i2), (3, .int i3)]) C.1 C.2.1 dX0_add_44 hl (k := 4) rfl (by rw [ex6]; rfl) (by decide) rfl (fun ls hl => ?_)
        clear ex6
        refine lv_goto (pc := 47) (tgt := 16) C.1 C.2.1 dX0_add_47 (by decide) ?_
        exact ih c0 i1 i2 i3 x6 v5 _ _ _ kc0 h hP hS (lv_sub hl [1, 2, 3, 4, 0] rfl)
set_option maxHeartbeats 4000000 in
set_option maxRecDepth 100000 in
theorem w_X0_add_b50 (C : Cx p s m args c cX0_add 5 RX0 D cy) (hI : wI LC ad) (hr : meth.sig.returnType = none) (hlk : meth.locks = false) (hR : RoL 2 R) {vZ : VV} : ∀ (c0 : Nat) (i1 : Int32) (i2 : Int32) (i3 : Int32) (i4 : Int32) (v : VV) (H : Heap) (locs : List Loc) (ls : Array Slot), wk LC c0 0 → f_X0_add_b50 c0 i1 i2 i3 i4 v = some vZ → va_P D vwCl (wd LC cy ad v) H → va_S (wA LC ad) s.heap H locs → lv_has ls 5 [(0, .ref (ad c0)), (1, .int i1), (2, .int i2), (3, .int i3), (4, .int i4)] → W p l e R s m args below meth c H locs 0 0 (MQ below (qvG LC cy ad D vZ) args s 0 0 (wA LC ad)) (F0 m 50 ls []) := by
  intro c0 i1 i2 i3 i4 v H locs ls kc0 h hP hS hl
  unfold f_X0_add_b50 at h
  refine lv_aload_n (pc := 50) C.1 C.2.1 dX0_add_50 rfl (lv_at hl 0 rfl) ?_
  refine x_getr (pc := 51) C hP ck_0 0 fl_X0_9 (by decide) rfl kc0 dX0_add_51 ?_
  have k8 : wk LC (rfC c0 0) 12 := wt_f wT_C kc0 0 (by decide) rfl rfl
  refine lv_iload (pc := 54) C.1 C.2.1 dX0_add_54 (lv_at hl 4 rfl) ?_
  refine lv_iload_n (pc := 56) C.1 C.2.1 dX0_add_56 rfl (lv_at hl 1 rfl) ?_
  obtain ⟨g9, h⟩ := gd_e h
  refine x_iast (pc := 57) C hI hP hS k8 (inB_vp g9) dX0_add_57 (fun H locs hP hS => ?_)
  obtain ⟨v10, h, hP⟩ := nv_p (P := fun z => va_P D vwCl (wd LC cy ad z) H) h hP
  refine lv_aload_n (pc := 58) C.1 C.2.1 dX0_add_58 rfl (lv_at hl 0 rfl) ?_
  refine x_getr (pc := 59) C hP ck_0 1 fl_X0_15 (by decide) rfl kc0 dX0_add_59 ?_
  have k11 : wk LC (rfC c0 1) 12 := wt_f wT_C kc0 1 (by decide) rfl rfl
  refine lv_iload (pc := 62) C.1 C.2.1 dX0_add_62 (lv_at hl 4 rfl) ?_
  refine lv_iload_n (pc := 64) C.1 C.2.1 dX0_add_64 rfl (lv_at hl 2 rfl) ?_
  obtain ⟨g12, h⟩ := gd_e h
  refine x_iast (pc := 65) C hI hP hS k11 (inB_vp g12) dX0_add_65 (fun H locs hP hS => ?_)
  obtain ⟨v13, h, hP⟩ := nv_p (P := fun z => va_P D vwCl (wd LC cy ad z) H) h hP
  refine lv_aload_n (pc := 66) C.1 C.2.1 dX0_add_66 rfl (lv_at hl 0 rfl) ?_
  refine x_getr (pc := 67) C hP ck_0 2 fl_X0_18 (by decide) rfl kc0 dX0_add_67 ?_
  have k14 : wk LC (rfC c0 2) 12 := wt_f wT_C kc0 2 (by decide) rfl rfl
  refine lv_iload (pc := 70) C.1 C.2.1 dX0_add_70 (lv_at hl 4 rfl) ?_
  refine lv_iload_n (pc := 72) C.1 C.2.1 dX0_add_72 rfl (lv_at hl 3 rfl) ?_
  obtain ⟨g15, h⟩ := gd_e h
  refine x_iast (pc := 73) C hI hP hS k14 (inB_vp g15) dX0_add_73 (fun H locs hP hS => ?_)
  obtain ⟨v16, h, hP⟩ := nv_p (P := fun z => va_P D vwCl (wd LC cy ad z) H) h hP
  refine lv_aload_n (pc := 74) C.1 C.2.1 dX0_add_74 rfl (lv_at hl 0 rfl) ?_
  refine lv_dup (pc := 75) C.1 C.2.1 dX0_add_75 rfl ?_
  refine x_geti (pc := 76) C hP ck_0 3 fl_X0_21 (by decide) rfl kc0 dX0_add_76 ?_
  refine lv_iconst (pc := 79) (v := 1) C.1 C.2.1 dX0_add_79 (by decide) ?_
  refine lv_iadd (pc := 80) C.1 C.2.1 dX0_add_80 ?_
  refine x_put (pc := 81) C hI hP hS ck_0 3 fl_X0_21 (by decide) rfl rfl kc0 rfl rfl dX0_add_81 (fun H locs hP hS => ?_)
  obtain ⟨v17, h, hP⟩ := nv_p (P := fun z => va_P D vwCl (wd LC cy ad z) H) h hP
  exact x_vret (pc := 84) C hr hlk hP hS h dX0_add_84
set_option maxHeartbeats 4000000 in
set_option maxRecDepth 100000 in
theorem w_X0_add (C : Cx p s m args c cX0_add 5 RX0 D cy) (hI : wI LC ad) (hr : meth.sig.returnType = none) (hlk : meth.locks = false) (hR : RoL 2 R) {vZ : VV} : ∀ (c0 : Nat) (i1 : Int32) (i2 : Int32) (i3 : Int32) (v : VV) (H : Heap) (locs : List Loc) (ls : Array Slot), wk LC c0 0 → f_X0_add c0 i1 i2 i3 v = some vZ → va_P D vwCl (wd LC cy ad v) H → va_S (wA LC ad) s.heap H locs → lv_has ls 5 [(0, .ref (ad c0)), (1, .int i1), (2, .int i2), (3, .int i3)] → W p l e R s m args below meth c H locs 0 0 (MQ below (qvG LC cy ad D vZ) args s 0 0 (wA LC ad)) (F0 m 0 ls []) := by
  intro c0 i1 i2 i3 v H locs ls kc0 h hP hS hl
  unfold f_X0_add at h
  refine lv_aload_n (pc := 0) C.1 C.2.1 dX0_add_0 rfl (lv_at hl 0 rfl) ?_
  refine x_geti (pc := 1) C hP ck_0 3 fl_X0_21 (by decide) rfl kc0 dX0_add_1 ?_
  refine lv_bipush (pc := 4) (v := 20) C.1 C.2.1 dX0_add_4 (by decide) ?_
  refine lv_icmp_lt (pc := 6) (tgt := 10) C.1 C.2.1 dX0_add_6 (by decide) (fun b6 => ?_) (fun b6 => ?_)
  · replace h := if_t h b6
    refine lv_aload_n (pc := 10) C.1 C.2.1 dX0_add_10 rfl (lv_at hl 0 rfl) ?_
    refine x_geti (pc := 11) C hP ck_0 3 fl_X0_21 (by decide) rfl kc0 dX0_add_11 ?_
    refine lv_topi (fun x1 ex1 => ?_)
    replace h := nv_e h ex1
    clear ex1
    refine lv_istore (pc := 14) (lv' := [(4, .int x1), (0, .ref (ad c0)), (1, .int i1), (2, .int i2), (3, .int i3)]) C.1 C.2.1 dX0_add_14 hl (by decide) rfl (fun ls hl => ?_)
    refine w_X0_add_l16 C hI hr hlk hR _ ?_ FU c0 i1 i2 i3 x1 v _ _ _ kc0 h hP hS (lv_sub hl [1, 2, 3, 4, 0] rfl)
    intro c0_7 i1_7 i2_7 i3_7 i4_7 v_7 H locs ls kc0_7 h hP hS hl
    exact w_X0_add_b50 C hI hr hlk hR c0_7 i1_7 i2_7 i3_7 i4_7 v_7 _ _ _ kc0_7 h hP hS (lv_sub hl [0, 1, 2, 3, 4] rfl)
  · replace h := if_f h b6
    exact x_vret (pc := 9) C hr hlk hP hS h dX0_add_9
set_option maxRecDepth 100000 in
theorem m_X0_add (hI : wI LC ad) {c0 : Nat} {i1 : Int32} {i2 : Int32} {i3 : Int32} {v : VV} {vZ : VV} (kc0 : wk LC c0 0) (h : F_X0_add c0 i1 i2 i3 v = some vZ) : Met l yX0_add (Cond.code yX0_add cX0_add 5 none :: wsG) (rmL 2) (pcG LC cy ad D [.ref (ad c0), .int i1, .int i2, .int i3] v) (qvG LC cy ad D vZ) 0 0 (wA LC ad) := by
  refine Met.ofW (cc := cX0_add) (maxL := 5) (ret := none) (by decide) rfl ?_
  intro p e s m args below meth c s₁ B hml hv
  obtain ⟨rfl, hP, hK⟩ := hv
  have hts := atoms_spec (ws := Cond.code yX0_add cX0_add 5 none :: wsG) B.pre
  have hown : s.vm.findClass RX0 = some m.cls := findClass_of_methodNamed B.named
  have C : Cx p s m _ c cX0_add 5 RX0 D cy := ⟨B.exec, B.bytes, hml, hown, fun w hw => hts w (List.mem_cons_of_mem _ hw), hK⟩
  have hl := lv_entry ([.ref (ad c0), .int i1, .int i2, .int i3]) (n := 5) (Nat.le_of_ble_eq_true rfl)
  rw [lg_entry_eq]
  generalize (lg_sl ([.ref (ad c0), .int i1, .int i2, .int i3]) ++ List.replicate (5 - (lg_sl ([.ref (ad c0), .int i1, .int i2, .int i3])).length) Slot.unset).toArray = ls at hl ⊢
  have hl : lv_has ls 5 [(0, .ref (ad c0)), (1, .int i1), (2, .int i2), (3, .int i3)] := hl
  exact w_X0_add C hI B.returns B.notSynchronized (RoL_rm _) c0 i1 i2 i3 v _ _ _ kc0 h hP va_S.rf (lv_sub hl [0, 1, 2, 3] rfl)
def f_X0_dropBefore_l2 (k26 : Nat → Int32 → VV → Option (VV)) : Nat → Nat → Int32 → Int32 → VV → Option (VV)
  | 0, _, _, _, _ => none
  | n + 1, c0, i1, i2, v =>
    if ((v c0 3) ≤ i2) then
      k26 c0 i2 v
    else
      gd (inB i2 (lnC (rfC c0 0)) = true) <|
      if (i1 ≤ (v (rfC c0 0) (Int32.toNatClampNeg i2))) then
        k26 c0 i2 v
      else
        nv (i2 + 1) fun x3 =>
        f_X0_dropBefore_l2 k26 n c0 i1 x3 v
def f_X0_dropBefore_l28 (k50 : Nat → Int32 → VV → Option (VV)) : Nat → Nat → Int32 → Int32 → VV → Option (VV)
  | 0, _, _, _, _ => none
  | n + 1, c0, i2, i3, v =>
    if ((v c0 3) ≤ i3) then
      k50 c0 i2 v
    else
      (F_X0_move c0 i3 (i3 - i2) v).bind fun v6 =>
      nv (i3 + 1) fun x7 =>
      f_X0_dropBefore_l28 k50 n c0 i2 x7 v6
def f_X0_dropBefore (c0 : Nat) (i1 : Int32) (v : VV) : Option (VV) :=
  f_X0_dropBefore_l2 (fun c0_4 i2_4 v_4 =>
  f_X0_dropBefore_l28 (fun c0_8 i2_8 v_8 =>
  nv (wu v_8 c0_8 3 ((v_8 c0_8 3) - i2_8)) fun v9 =>
  some v9) FU c0_4 i2_4 i2_4 v_4) FU c0 i1 0 v
abbrev F_X0_dropBefore (c0 : Nat) (i1 : Int32) (v : VV) : Option (VV) := f_X0_dropBefore c0 i1 v
set_option maxHeartbeats 4000000 in
set_option maxRecDepth 100000 in
theorem w_X0_dropBefore_l2 (C : Cx p s m args c cX0_dropBefore 4 RX0 D cy) (hI : wI LC ad) (hr : meth.sig.returnType = none) (hlk : meth.locks = false) (hR : RoL 2 R) (k26 : Nat → Int32 → VV → Option (VV)) {vZ : VV} (h26 : ∀ (c0 : Nat) (i2 : Int32) (v : VV) (H : Heap) (locs : List Loc) (ls : Array Slot), wk LC c0 0 → k26 c0 i2 v = some vZ → va_P D vwCl (wd LC cy ad v) H → va_S (wA LC ad) s.heap H locs → lv_has ls 4 [(0, .ref (ad c0)), (2, .int i2)] → W p l e R s m args below meth c H locs 0 0 (MQ below (qvG LC cy ad D vZ) args s 0 0 (wA LC ad)) (F0 m 26 ls [])) : ∀ (n : Nat) (c0 : Nat) (i1 : Int32) (i2 : Int32) (v : VV) (H : Heap) (locs : List Loc) (ls : Array Slot), wk LC c0 0 → f_X0_dropBefore_l2 k26 n c0 i1 i2 v = some vZ → va_P D vwCl (wd LC cy ad v) H → va_S (wA LC ad) s.heap H locs → lv_has ls 4 [(0, .ref (ad c0)), (1, .int i1), (2, .int i2)] → W p l e R s m args below meth c H locs 0 0 (MQ below (qvG LC cy ad D vZ) args s 0 0 (wA LC ad)) (F0 m 2 ls []) := by
  intro n
  induction n with
  | zero => intro c0 i1 i2 v H locs ls kc0 h hP hS hl; exact absurd h (by simp [f_X0_dropBefore_l2])
  | succ n ih =>
    intro c0 i1 i2 v H locs ls kc0 h hP hS hl
    rw [f_X0_dropBefore_l2] at h
    refine lv_iload_n (pc := 2) C.1 C.2.1 dX0_dropBefore_2 rfl (lv_at hl 2 rfl) ?_
    refine lv_aload_n (pc := 3) C.1 C.2.1 dX0_dropBefore_3 rfl (lv_at hl 0 rfl) ?_
    refine x_geti (pc := 4) C hP ck_0 3 fl_X0_21 (by decide) rfl kc0 dX0_dropBefore_4 ?_
    refine lv_icmp_ge (pc := 7) (tgt := 26) C.1 C.2.1 dX0_dropBefore_7 (by decide) (fun b7 => ?_) (fun b7 => ?_)
    · replace h := if_t h b7
      exact h26 c0 i2 v _ _ _ kc0 h hP hS (lv_sub hl [0, 2] rfl)
    · replace h := if_f h b7
      refine lv_aload_n (pc := 10) C.1 C.2.1 dX0_dropBefore_10 rfl (lv_at hl 0 rfl) ?_
      refine x_getr (pc := 11) C hP ck_0 0 fl_X0_9 (by decide) rfl kc0 dX0_dropBefore_11 ?_
      have k1 : wk LC (rfC c0 0) 12 := wt_f wT_C kc0 0 (by decide) rfl rfl
      refine lv_iload_n (pc := 14) C.1 C.2.1 dX0_dropBefore_14 rfl (lv_at hl 2 rfl) ?_
      obtain ⟨g2, h⟩ := gd_e h
      refine x_iald (pc := 15) C hP k1 (inB_vp g2) dX0_dropBefore_15 ?_
      refine lv_iload_n (pc := 16) C.1 C.2.1 dX0_dropBefore_16 rfl (lv_at hl 1 rfl) ?_
      refine lv_icmp_ge (pc := 17) (tgt := 26) C.1 C.2.1 dX0_dropBefore_17 (by decide) (fun b17 => ?_) (fun b17 => ?_)
      · replace h := if_t h b17
        exact h26 c0 i2 v _ _ _ kc0 h hP hS (lv_sub hl [0, 2] rfl)
      · replace h := if_f h b17
        obtain ⟨x3, ex3⟩ : ∃ y : Int32, y = i2 + 1 := ⟨_, rfl⟩
        replace h := nv_e h ex3
        refine lv_iinc (pc := 20) (v := x3) (lv' := [(2, .int x3), (0, .ref (ad c0)), (1, .int i1)]) C.1 C.2.1 dX0_dropBefore_20 hl (k := 2) rfl (by rw [ex3]; rfl) (by decide) rfl (fun ls hl => ?_)
        clear ex3
        refine lv_goto (pc := 23) (tgt := 2) C.1 C.2.1 dX0_dropBefore_23 (by decide) ?_
        exact ih c0 i1 x3 v _ _ _ kc0 h hP hS (lv_sub hl [1, 2, 0] rfl)
set_option maxHeartbeats 4000000 in
set_option maxRecDepth 100000 in
theorem w_X0_dropBefore_l28 (C : Cx p s m args c cX0_dropBefore 4 RX0 D cy) (hI : wI LC ad) (hr : meth.sig.returnType = none) (hlk : meth.locks = false) (hR : RoL 2 R) (k50 : Nat → Int32 → VV → Option (VV)) {vZ : VV} (h50 : ∀ (c0 : Nat) (i2 : Int32) (v : VV) (H : Heap) (locs : List Loc) (ls : Array Slot), wk LC c0 0 → k50 c0 i2 v = some vZ → va_P D vwCl (wd LC cy ad v) H → va_S (wA LC ad) s.heap H locs → lv_has ls 4 [(0, .ref (ad c0)), (2, .int i2)] → W p l e R s m args below meth c H locs 0 0 (MQ below (qvG LC cy ad D vZ) args s 0 0 (wA LC ad)) (F0 m 50 ls [])) : ∀ (n : Nat) (c0 : Nat) (i2 : Int32) (i3 : Int32) (v : VV) (H : Heap) (locs : List Loc) (ls : Array Slot), wk LC c0 0 → f_X0_dropBefore_l28 k50 n c0 i2 i3 v = some vZ → va_P D vwCl (wd LC cy ad v) H → va_S (wA LC ad) s.heap H locs → lv_has ls 4 [(0, .ref (ad c0)), (2, .int i2), (3, .int i3)] → W p l e R s m args below meth c H locs 0 0 (MQ below (qvG LC cy ad D vZ) args s 0 0 (wA LC ad)) (F0 m 28 ls []) := by
  intro n
  induction n with
  | zero => intro c0 i2 i3 v H locs ls kc0 h hP hS hl; exact absurd h (by simp [f_X0_dropBefore_l28])
  | succ n ih =>
    intro c0 i2 i3 v H locs ls kc0 h hP hS hl
    rw [f_X0_dropBefore_l28] at h
    refine lv_iload_n (pc := 28) C.1 C.2.1 dX0_dropBefore_28 rfl (lv_at hl 2 rfl) ?_
    refine lv_aload_n (pc := 29) C.1 C.2.1 dX0_dropBefore_29 rfl (lv_at hl 0 rfl) ?_
    refine x_geti (pc := 30) C hP ck_0 3 fl_X0_21 (by decide) rfl kc0 dX0_dropBefore_30 ?_
    refine lv_icmp_ge (pc := 33) (tgt := 50) C.1 C.2.1 dX0_dropBefore_33 (by decide) (fun b33 => ?_) (fun b33 => ?_)
    · replace h := if_t h b33
      exact h50 c0 i2 v _ _ _ kc0 h hP hS (lv_sub hl [0, 1] rfl)
    · replace h := if_f h b33
      refine lv_aload_n (pc := 36) C.1 C.2.1 dX0_dropBefore_36 rfl (lv_at hl 0 rfl) ?_
      refine lv_iload_n (pc := 37) C.1 C.2.1 dX0_dropBefore_37 rfl (lv_at hl 2 rfl) ?_
      refine lv_iload_n (pc := 38) C.1 C.2.1 dX0_dropBefore_38 rfl (lv_at hl 2 rfl) ?_
      refine lv_iload_n (pc := 39) C.1 C.2.1 dX0_dropBefore_39 rfl (lv_at hl 1 rfl) ?_
      refine lv_isub (pc := 40) C.1 C.2.1 dX0_dropBefore_40 ?_
      obtain ⟨v6, hc5, h⟩ := bd_e h
      refine x_callv (pc := 41) C hP hS mi_X0_move ck_0 kc0 ml_X0_25 (hR.le (by decide)) (Nat.zero_le _) (Nat.zero_le _) [.int i3, .int (i3 - i2)] rfl hl.1 rfl (Nat.le_of_ble_eq_true rfl) dX0_dropBefore_41 (m_X0_move hI kc0 hc5) (fun H locs hP hS => ?_)
      obtain ⟨x7, ex7⟩ : ∃ y : Int32, y = i3 + 1 := ⟨_, rfl⟩
      replace h := nv_e h ex7
      refine lv_iinc (pc := 44) (v := x7) (lv' := [(3, .int x7), (0, .ref (ad c0)), (2, .int i2)]) C.1 C.2.1 dX0_dropBefore_44 hl (k := 2) rfl (by rw [ex7]; rfl) (by decide) rfl (fun ls hl => ?_)
      clear ex7
      refine lv_goto (pc := 47) (tgt := 28) C.1 C.2.1 dX0_dropBefore_47 (by decide) ?_
      exact ih c0 i2 x7 v6 _ _ _ kc0 h hP hS (lv_sub hl [1, 2, 0] rfl)
set_option maxHeartbeats 4000000 in
set_option maxRecDepth 100000 in
theorem w_X0_dropBefore (C : Cx p s m args c cX0_dropBefore 4 RX0 D cy) (hI : wI LC ad) (hr : meth.sig.returnType = none) (hlk : meth.locks = false) (hR : RoL 2 R) {vZ : VV} : ∀ (c0 : Nat) (i1 : Int32) (v : VV) (H : Heap) (locs : List Loc) (ls : Array Slot), wk LC c0 0 → f_X0_dropBefore c0 i1 v = some vZ → va_P D vwCl (wd LC cy ad v) H → va_S (wA LC ad) s.heap H locs → lv_has ls 4 [(0, .ref (ad c0)), (1, .int i1)] → W p l e R s m args below meth c H locs 0 0 (MQ below (qvG LC cy ad D vZ) args s 0 0 (wA LC ad)) (F0 m 0 ls []) := by
  intro c0 i1 v H locs ls kc0 h hP hS hl
  unfold f_X0_dropBefore at h
  refine lv_iconst (pc := 0) (v := 0) C.1 C.2.1 dX0_dropBefore_0 (by decide) ?_
  refine lv_istore_n (pc := 1) (lv' := [(2, .int 0), (0, .ref (ad c0)), (1, .int i1)]) C.1 C.2.1 dX0_dropBefore_1 rfl hl (by decide) rfl (fun ls hl => ?_)
  refine w_X0_dropBefore_l2 C hI hr hlk hR _ ?_ FU c0 i1 0 v _ _ _ kc0 h hP hS (lv_sub hl [1, 2, 0] rfl)
  intro c0_4 i2_4 v_4 H locs ls kc0_4 h hP hS hl
  refine lv_iload_n (pc := 26) C.1 C.2.1 dX0_dropBefore_26 rfl (lv_at hl 1 rfl) ?_
  refine lv_istore_n (pc := 27) (lv' := [(3, .int i2_4), (0, .ref (ad c0_4)), (2, .int i2_4)]) C.1 C.2.1 dX0_dropBefore_27 rfl hl (by decide) rfl (fun ls hl => ?_)
  refine w_X0_dropBefore_l28 C hI hr hlk hR _ ?_ FU c0_4 i2_4 i2_4 v_4 _ _ _ kc0_4 h hP hS (lv_sub hl [1, 2, 0] rfl)
  intro c0_8 i2_8 v_8 H locs ls kc0_8 h hP hS hl
  refine lv_aload_n (pc := 50) C.1 C.2.1 dX0_dropBefore_50 rfl (lv_at hl 0 rfl) ?_
  refine lv_dup (pc := 51) C.1 C.2.1 dX0_dropBefore_51 rfl ?_
  refine x_geti (pc := 52) C hP ck_0 3 fl_X0_21 (by decide) rfl kc0_8 dX0_dropBefore_52 ?_
  refine lv_iload_n (pc := 55) C.1 C.2.1 dX0_dropBefore_55 rfl (lv_at hl 1 rfl) ?_
  refine lv_isub (pc := 56) C.1 C.2.1 dX0_dropBefore_56 ?_
  refine x_put (pc := 57) C hI hP hS ck_0 3 fl_X0_21 (by decide) rfl rfl kc0_8 rfl rfl dX0_dropBefore_57 (fun H locs hP hS => ?_)
  obtain ⟨v9, h, hP⟩ := nv_p (P := fun z => va_P D vwCl (wd LC cy ad z) H) h hP
  exact x_vret (pc := 60) C hr hlk hP hS h dX0_dropBefore_60
set_option maxRecDepth 100000 in
theorem m_X0_dropBefore (hI : wI LC ad) {c0 : Nat} {i1 : Int32} {v : VV} {vZ : VV} (kc0 : wk LC c0 0) (h : F_X0_dropBefore c0 i1 v = some vZ) : Met l yX0_dropBefore (Cond.code yX0_dropBefore cX0_dropBefore 4 none :: wsG) (rmL 2) (pcG LC cy ad D [.ref (ad c0), .int i1] v) (qvG LC cy ad D vZ) 0 0 (wA LC ad) := by
  refine Met.ofW (cc := cX0_dropBefore) (maxL := 4) (ret := none) (by decide) rfl ?_
  intro p e s m args below meth c s₁ B hml hv
  obtain ⟨rfl, hP, hK⟩ := hv
  have hts := atoms_spec (ws := Cond.code yX0_dropBefore cX0_dropBefore 4 none :: wsG) B.pre
  have hown : s.vm.findClass RX0 = some m.cls := findClass_of_methodNamed B.named
  have C : Cx p s m _ c cX0_dropBefore 4 RX0 D cy := ⟨B.exec, B.bytes, hml, hown, fun w hw => hts w (List.mem_cons_of_mem _ hw), hK⟩
  have hl := lv_entry ([.ref (ad c0), .int i1]) (n := 4) (Nat.le_of_ble_eq_true rfl)
  rw [lg_entry_eq]
  generalize (lg_sl ([.ref (ad c0), .int i1]) ++ List.replicate (4 - (lg_sl ([.ref (ad c0), .int i1])).length) Slot.unset).toArray = ls at hl ⊢
  have hl : lv_has ls 4 [(0, .ref (ad c0)), (1, .int i1)] := hl
  exact w_X0_dropBefore C hI B.returns B.notSynchronized (RoL_rm _) c0 i1 v _ _ _ kc0 h hP va_S.rf (lv_sub hl [0, 1] rfl)
end
