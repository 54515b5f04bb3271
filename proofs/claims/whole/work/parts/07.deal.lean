section
variable {p : Program} {l : Launch} {e : Env} {R : Room} {s : State} {m : MethodId} {args : Array Value} {below : List Frame} {meth : Method} {c : Code} {D : va_G} {cy : Nat → ClassId} {ad : Nat → Nat}
def f_X1_begin (c0 : Nat) (i1 : Int32) (i2 : Int32) (v : VV) : Option (VV) :=
  nv (wu v c0 0 0) fun v1 =>
  nv (wu v1 c0 1 i1) fun v2 =>
  nv (wu v2 c0 2 i2) fun v3 =>
  nv (wu v3 c0 3 0) fun v4 =>
  nv (wu v4 c0 4 0) fun v5 =>
  some v5
abbrev F_X1_begin (c0 : Nat) (i1 : Int32) (i2 : Int32) (v : VV) : Option (VV) := f_X1_begin c0 i1 i2 v
set_option maxHeartbeats 4000000 in
set_option maxRecDepth 100000 in
theorem w_X1_begin (C : Cx p s m args c cX1_begin 3 RX1 D cy) (hI : wI LC ad) (hr : meth.sig.returnType = none) (hlk : meth.locks = false) (hR : RoL 1 R) {vZ : VV} : ∀ (c0 : Nat) (i1 : Int32) (i2 : Int32) (v : VV) (H : Heap) (locs : List Loc) (ls : Array Slot), wk LC c0 1 → f_X1_begin c0 i1 i2 v = some vZ → va_P D vwCl (wd LC cy ad v) H → va_S (wA LC ad) s.heap H locs → lv_has ls 3 [(0, .ref (ad c0)), (1, .int i1), (2, .int i2)] → W p l e R s m args below meth c H locs 0 0 (MQ below (qvG LC cy ad D vZ) args s 0 0 (wA LC ad)) (F0 m 0 ls []) := by
  intro c0 i1 i2 v H locs ls kc0 h hP hS hl
  unfold f_X1_begin at h
  refine lv_aload_n (pc := 0) C.1 C.2.1 dX1_begin_0 rfl (lv_at hl 0 rfl) ?_
  refine lv_iconst (pc := 1) (v := 0) C.1 C.2.1 dX1_begin_1 (by decide) ?_
  refine x_put (pc := 2) C hI hP hS ck_1 0 fl_X1_38 (by decide) rfl rfl kc0 rfl rfl dX1_begin_2 (fun H locs hP hS => ?_)
  obtain ⟨v1, h, hP⟩ := nv_p (P := fun z => va_P D vwCl (wd LC cy ad z) H) h hP
  refine lv_aload_n (pc := 5) C.1 C.2.1 dX1_begin_5 rfl (lv_at hl 0 rfl) ?_
  refine lv_iload_n (pc := 6) C.1 C.2.1 dX1_begin_6 rfl (lv_at hl 1 rfl) ?_
  refine x_put (pc := 7) C hI hP hS ck_1 1 fl_X1_15 (by decide) rfl rfl kc0 rfl rfl dX1_begin_7 (fun H locs hP hS => ?_)
  obtain ⟨v2, h, hP⟩ := nv_p (P := fun z => va_P D vwCl (wd LC cy ad z) H) h hP
  refine lv_aload_n (pc := 10) C.1 C.2.1 dX1_begin_10 rfl (lv_at hl 0 rfl) ?_
  refine lv_iload_n (pc := 11) C.1 C.2.1 dX1_begin_11 rfl (lv_at hl 2 rfl) ?_
  refine x_put (pc := 12) C hI hP hS ck_1 2 fl_X1_25 (by decide) rfl rfl kc0 rfl rfl dX1_begin_12 (fun H locs hP hS => ?_)
  obtain ⟨v3, h, hP⟩ := nv_p (P := fun z => va_P D vwCl (wd LC cy ad z) H) h hP
  refine lv_aload_n (pc := 15) C.1 C.2.1 dX1_begin_15 rfl (lv_at hl 0 rfl) ?_
  refine lv_iconst (pc := 16) (v := 0) C.1 C.2.1 dX1_begin_16 (by decide) ?_
  refine x_put (pc := 17) C hI hP hS ck_1 3 fl_X1_41 (by decide) rfl rfl kc0 rfl rfl dX1_begin_17 (fun H locs hP hS => ?_)
  obtain ⟨v4, h, hP⟩ := nv_p (P := fun z => va_P D vwCl (wd LC cy ad z) H) h hP
  refine lv_aload_n (pc := 20) C.1 C.2.1 dX1_begin_20 rfl (lv_at hl 0 rfl) ?_
  refine lv_iconst (pc := 21) (v := 0) C.1 C.2.1 dX1_begin_21 (by decide) ?_
  refine x_put (pc := 22) C hI hP hS ck_1 4 fl_X1_44 (by decide) rfl rfl kc0 rfl rfl dX1_begin_22 (fun H locs hP hS => ?_)
  obtain ⟨v5, h, hP⟩ := nv_p (P := fun z => va_P D vwCl (wd LC cy ad z) H) h hP
  exact x_vret (pc := 25) C hr hlk hP hS h dX1_begin_25
set_option maxRecDepth 100000 in
theorem m_X1_begin (hI : wI LC ad) {c0 : Nat} {i1 : Int32} {i2 : Int32} {v : VV} {vZ : VV} (kc0 : wk LC c0 1) (h : F_X1_begin c0 i1 i2 v = some vZ) : Met l yX1_begin (Cond.code yX1_begin cX1_begin 3 none :: wsG) (rmL 1) (pcG LC cy ad D [.ref (ad c0), .int i1, .int i2] v) (qvG LC cy ad D vZ) 0 0 (wA LC ad) := by
  refine Met.ofW (cc := cX1_begin) (maxL := 3) (ret := none) (by decide) rfl ?_
  intro p e s m args below meth c s₁ B hml hv
  obtain ⟨rfl, hP, hK⟩ := hv
  have hts := atoms_spec (ws := Cond.code yX1_begin cX1_begin 3 none :: wsG) B.pre
  have hown : s.vm.findClass RX1 = some m.cls := findClass_of_methodNamed B.named
  have C : Cx p s m _ c cX1_begin 3 RX1 D cy := ⟨B.exec, B.bytes, hml, hown, fun w hw => hts w (List.mem_cons_of_mem _ hw), hK⟩
  have hl := lv_entry ([.ref (ad c0), .int i1, .int i2]) (n := 3) (Nat.le_of_ble_eq_true rfl)
  rw [lg_entry_eq]
  generalize (lg_sl ([.ref (ad c0), .int i1, .int i2]) ++ List.replicate (3 - (lg_sl ([.ref (ad c0), .int i1, .int i2])).length) Slot.unset).toArray = ls at hl ⊢
  have hl : lv_has ls 3 [(0, .ref (ad c0)), (1, .int i1), (2, .int i2)] := hl
  exact w_X1_begin C hI B.returns B.notSynchronized (RoL_rm _) c0 i1 i2 v _ _ _ kc0 h hP va_S.rf (lv_sub hl [0, 1, 2] rfl)
def f_X6_priceAt (c0 : Nat) (i1 : Int32) (v : VV) : Option (Int32 × VV) :=
  if (1 ≤ (v c0 5)) then
    nv ((if 0 < ((2 * (v c0 5)) - i1) then ((2 * (v c0 5)) - i1) else 0)) fun x1 =>
    gd (¬ (v c0 5) = 0) <|
    nv ((if 1 < (((v c0 4) * x1) / (v c0 5)) then (((v c0 4) * x1) / (v c0 5)) else 1)) fun x3 =>
    some (x3, v)
  else
    some (1, v)
abbrev F_X6_priceAt (c0 : Nat) (i1 : Int32) (v : VV) : Option (Int32 × VV) := f_X6_priceAt c0 i1 v
set_option maxHeartbeats 4000000 in
set_option maxRecDepth 100000 in
theorem w_X6_priceAt (C : Cx p s m args c cX6_priceAt 3 RX6 D cy) (hI : wI LC ad) (hr : meth.sig.returnType = some .int) (hlk : meth.locks = false) (hR : RoL 1 R) {rZ : Int32} {vZ : VV} : ∀ (c0 : Nat) (i1 : Int32) (v : VV) (H : Heap) (locs : List Loc) (ls : Array Slot), wk LC c0 6 → f_X6_priceAt c0 i1 v = some (rZ, vZ) → va_P D vwCl (wd LC cy ad v) H → va_S (wA LC ad) s.heap H locs → lv_has ls 3 [(0, .ref (ad c0)), (1, .int i1)] → W p l e R s m args below meth c H locs 0 0 (MQ below (qiG LC cy ad D rZ vZ) args s 0 0 (wA LC ad)) (F0 m 0 ls []) := by
  intro c0 i1 v H locs ls kc0 h hP hS hl
  unfold f_X6_priceAt at h
  refine lv_aload_n (pc := 0) C.1 C.2.1 dX6_priceAt_0 rfl (lv_at hl 0 rfl) ?_
  refine x_geti (pc := 1) C hP ck_6 5 fl_X6_18 (by decide) rfl kc0 dX6_priceAt_1 ?_
  refine lv_iconst (pc := 4) (v := 1) C.1 C.2.1 dX6_priceAt_4 (by decide) ?_
  refine lv_icmp_ge (pc := 5) (tgt := 10) C.1 C.2.1 dX6_priceAt_5 (by decide) (fun b5 => ?_) (fun b5 => ?_)
  · replace h := if_t h b5
    refine lv_iconst (pc := 10) (v := 0) C.1 C.2.1 dX6_priceAt_10 (by decide) ?_
    refine lv_iconst (pc := 11) (v := 2) C.1 C.2.1 dX6_priceAt_11 (by decide) ?_
    refine lv_aload_n (pc := 12) C.1 C.2.1 dX6_priceAt_12 rfl (lv_at hl 0 rfl) ?_
    refine x_geti (pc := 13) C hP ck_6 5 fl_X6_18 (by decide) rfl kc0 dX6_priceAt_13 ?_
    refine lv_imul (pc := 16) C.1 C.2.1 dX6_priceAt_16 ?_
    refine lv_iload_n (pc := 17) C.1 C.2.1 dX6_priceAt_17 rfl (lv_at hl 1 rfl) ?_
    refine lv_isub (pc := 18) C.1 C.2.1 dX6_priceAt_18 ?_
    refine x_max (pc := 19) C ml_X6_21 (hR.le (by decide)) (Nat.zero_le _) (Nat.zero_le _) hl.1 (Nat.le_of_ble_eq_true rfl) dX6_priceAt_19 ?_
    refine lv_topi (fun x1 ex1 => ?_)
    replace h := nv_e h ex1
    clear ex1
    refine lv_istore_n (pc := 22) (lv' := [(2, .int x1), (0, .ref (ad c0)), (1, .int i1)]) C.1 C.2.1 dX6_priceAt_22 rfl hl (by decide) rfl (fun ls hl => ?_)
    refine lv_iconst (pc := 23) (v := 1) C.1 C.2.1 dX6_priceAt_23 (by decide) ?_
    refine lv_aload_n (pc := 24) C.1 C.2.1 dX6_priceAt_24 rfl (lv_at hl 1 rfl) ?_
    refine x_geti (pc := 25) C hP ck_6 4 fl_X6_15 (by decide) rfl kc0 dX6_priceAt_25 ?_
    refine lv_iload_n (pc := 28) C.1 C.2.1 dX6_priceAt_28 rfl (lv_at hl 0 rfl) ?_
    refine lv_imul (pc := 29) C.1 C.2.1 dX6_priceAt_29 ?_
    refine lv_aload_n (pc := 30) C.1 C.2.1 dX6_priceAt_30 rfl (lv_at hl 1 rfl) ?_
    refine x_geti (pc := 31) C hP ck_6 5 fl_X6_18 (by decide) rfl kc0 dX6_priceAt_31 ?_
    obtain ⟨g2, h⟩ := gd_e h
    refine lv_idiv (pc := 34) C.1 C.2.1 dX6_priceAt_34 g2 ?_
    refine x_max (pc := 35) C ml_X6_21 (hR.le (by decide)) (Nat.zero_le _) (Nat.zero_le _) hl.1 (Nat.le_of_ble_eq_true rfl) dX6_priceAt_35 ?_
    refine lv_topi (fun x3 ex3 => ?_)
    replace h := nv_e h ex3
    clear ex3
    exact x_iret (pc := 38) C hr hlk hP hS h dX6_priceAt_38
  · replace h := if_f h b5
    refine lv_iconst (pc := 8) (v := 1) C.1 C.2.1 dX6_priceAt_8 (by decide) ?_
    exact x_iret (pc := 9) C hr hlk hP hS h dX6_priceAt_9
set_option maxRecDepth 100000 in
theorem m_X6_priceAt (hI : wI LC ad) {c0 : Nat} {i1 : Int32} {v : VV} {rZ : Int32} {vZ : VV} (kc0 : wk LC c0 6) (h : F_X6_priceAt c0 i1 v = some (rZ, vZ)) : Met l yX6_priceAt (Cond.code yX6_priceAt cX6_priceAt 3 (some .int) :: wsG) (rmL 1) (pcG LC cy ad D [.ref (ad c0), .int i1] v) (qiG LC cy ad D rZ vZ) 0 0 (wA LC ad) := by
  refine Met.ofW (cc := cX6_priceAt) (maxL := 3) (ret := (some .int)) (by decide) rfl ?_
  intro p e s m args below meth c s₁ B hml hv
  obtain ⟨rfl, hP, hK⟩ := hv
  have hts := atoms_spec (ws := Cond.code yX6_priceAt cX6_priceAt 3 (some .int) :: wsG) B.pre
  have hown : s.vm.findClass RX6 = some m.cls := findClass_of_methodNamed B.named
  have C : Cx p s m _ c cX6_priceAt 3 RX6 D cy := ⟨B.exec, B.bytes, hml, hown, fun w hw => hts w (List.mem_cons_of_mem _ hw), hK⟩
  have hl := lv_entry ([.ref (ad c0), .int i1]) (n := 3) (Nat.le_of_ble_eq_true rfl)
  rw [lg_entry_eq]
  generalize (lg_sl ([.ref (ad c0), .int i1]) ++ List.replicate (3 - (lg_sl ([.ref (ad c0), .int i1])).length) Slot.unset).toArray = ls at hl ⊢
  have hl : lv_has ls 3 [(0, .ref (ad c0)), (1, .int i1)] := hl
  exact w_X6_priceAt C hI B.returns B.notSynchronized (RoL_rm _) c0 i1 v _ _ _ kc0 h hP va_S.rf (lv_sub hl [0, 1] rfl)
def f_X1_count (c0 : Nat) (i1 : Int32) (i2 : Int32) (v : VV) : Option (VV) :=
  nv (wu v c0 0 ((v c0 0) + 1)) fun v1 =>
  nv (wu v1 c0 3 ((v1 c0 3) + i1)) fun v2 =>
  nv (wu v2 c0 4 ((v2 c0 4) + i2)) fun v3 =>
  some v3
abbrev F_X1_count (c0 : Nat) (i1 : Int32) (i2 : Int32) (v : VV) : Option (VV) := f_X1_count c0 i1 i2 v
set_option maxHeartbeats 4000000 in
set_option maxRecDepth 100000 in
theorem w_X1_count (C : Cx p s m args c cX1_count 3 RX1 D cy) (hI : wI LC ad) (hr : meth.sig.returnType = none) (hlk : meth.locks = false) (hR : RoL 1 R) {vZ : VV} : ∀ (c0 : Nat) (i1 : Int32) (i2 : Int32) (v : VV) (H : Heap) (locs : List Loc) (ls : Array Slot), wk LC c0 1 → f_X1_count c0 i1 i2 v = some vZ → va_P D vwCl (wd LC cy ad v) H → va_S (wA LC ad) s.heap H locs → lv_has ls 3 [(0, .ref (ad c0)), (1, .int i1), (2, .int i2)] → W p l e R s m args below meth c H locs 0 0 (MQ below (qvG LC cy ad D vZ) args s 0 0 (wA LC ad)) (F0 m 0 ls []) := by
  intro c0 i1 i2 v H locs ls kc0 h hP hS hl
  unfold f_X1_count at h
  refine lv_aload_n (pc := 0) C.1 C.2.1 dX1_count_0 rfl (lv_at hl 0 rfl) ?_
  refine lv_dup (pc := 1) C.1 C.2.1 dX1_count_1 rfl ?_
  refine x_geti (pc := 2) C hP ck_1 0 fl_X1_38 (by decide) rfl kc0 dX1_count_2 ?_
  refine lv_iconst (pc := 5) (v := 1) C.1 C.2.1 dX1_count_5 (by decide) ?_
  refine lv_iadd (pc := 6) C.1 C.2.1 dX1_count_6 ?_
  refine x_put (pc := 7) C hI hP hS ck_1 0 fl_X1_38 (by decide) rfl rfl kc0 rfl rfl dX1_count_7 (fun H locs hP hS => ?_)
  obtain ⟨v1, h, hP⟩ := nv_p (P := fun z => va_P D vwCl (wd LC cy ad z) H) h hP
  refine lv_aload_n (pc := 10) C.1 C.2.1 dX1_count_10 rfl (lv_at hl 0 rfl) ?_
  refine lv_dup (pc := 11) C.1 C.2.1 dX1_count_11 rfl ?_
  refine x_geti (pc := 12) C hP ck_1 3 fl_X1_41 (by decide) rfl kc0 dX1_count_12 ?_
  refine lv_iload_n (pc := 15) C.1 C.2.1 dX1_count_15 rfl (lv_at hl 1 rfl) ?_
  refine lv_iadd (pc := 16) C.1 C.2.1 dX1_count_16 ?_
  refine x_put (pc := 17) C hI hP hS ck_1 3 fl_X1_41 (by decide) rfl rfl kc0 rfl rfl dX1_count_17 (fun H locs hP hS => ?_)
  obtain ⟨v2, h, hP⟩ := nv_p (P := fun z => va_P D vwCl (wd LC cy ad z) H) h hP
  refine lv_aload_n (pc := 20) C.1 C.2.1 dX1_count_20 rfl (lv_at hl 0 rfl) ?_
  refine lv_dup (pc := 21) C.1 C.2.1 dX1_count_21 rfl ?_
  refine x_geti (pc := 22) C hP ck_1 4 fl_X1_44 (by decide) rfl kc0 dX1_count_22 ?_
  refine lv_iload_n (pc := 25) C.1 C.2.1 dX1_count_25 rfl (lv_at hl 2 rfl) ?_
  refine lv_iadd (pc := 26) C.1 C.2.1 dX1_count_26 ?_
  refine x_put (pc := 27) C hI hP hS ck_1 4 fl_X1_44 (by decide) rfl rfl kc0 rfl rfl dX1_count_27 (fun H locs hP hS => ?_)
  obtain ⟨v3, h, hP⟩ := nv_p (P := fun z => va_P D vwCl (wd LC cy ad z) H) h hP
  exact x_vret (pc := 30) C hr hlk hP hS h dX1_count_30
set_option maxRecDepth 100000 in
theorem m_X1_count (hI : wI LC ad) {c0 : Nat} {i1 : Int32} {i2 : Int32} {v : VV} {vZ : VV} (kc0 : wk LC c0 1) (h : F_X1_count c0 i1 i2 v = some vZ) : Met l yX1_count (Cond.code yX1_count cX1_count 3 none :: wsG) (rmL 1) (pcG LC cy ad D [.ref (ad c0), .int i1, .int i2] v) (qvG LC cy ad D vZ) 0 0 (wA LC ad) := by
  refine Met.ofW (cc := cX1_count) (maxL := 3) (ret := none) (by decide) rfl ?_
  intro p e s m args below meth c s₁ B hml hv
  obtain ⟨rfl, hP, hK⟩ := hv
  have hts := atoms_spec (ws := Cond.code yX1_count cX1_count 3 none :: wsG) B.pre
  have hown : s.vm.findClass RX1 = some m.cls := findClass_of_methodNamed B.named
  have C : Cx p s m _ c cX1_count 3 RX1 D cy := ⟨B.exec, B.bytes, hml, hown, fun w hw => hts w (List.mem_cons_of_mem _ hw), hK⟩
  have hl := lv_entry ([.ref (ad c0), .int i1, .int i2]) (n := 3) (Nat.le_of_ble_eq_true rfl)
  rw [lg_entry_eq]
  generalize (lg_sl ([.ref (ad c0), .int i1, .int i2]) ++ List.replicate (3 - (lg_sl ([.ref (ad c0), .int i1, .int i2])).length) Slot.unset).toArray = ls at hl ⊢
  have hl : lv_has ls 3 [(0, .ref (ad c0)), (1, .int i1), (2, .int i2)] := hl
  exact w_X1_count C hI B.returns B.notSynchronized (RoL_rm _) c0 i1 i2 v _ _ _ kc0 h hP va_S.rf (lv_sub hl [0, 1, 2] rfl)
def f_X1_purchase_l10 : Nat → Nat → Nat → Int32 → Int32 → Int32 → VV → Option (VV)
  | 0, _, _, _, _, _, _ => none
  | n + 1, c0, c1, i3, i5, i6, v =>
    if (i5 ≤ i6) then
      some v
    else
      if ((v c0 1) ≤ 0) then
        some v
      else
        bi (F_X6_priceAt c1 (v c0 1) v) fun x5 v4 =>
        if ((x5 + i3) ≤ (v4 c0 2)) then
          nv (wu v4 c0 2 ((v4 c0 2) - (x5 + i3))) fun v6 =>
          nv (wu v6 c0 1 ((v6 c0 1) - 1)) fun v7 =>
          (F_X1_count c0 x5 i3 v7).bind fun v9 =>
          nv (i6 + 1) fun x10 =>
          f_X1_purchase_l10 n c0 c1 i3 i5 x10 v9
        else
          some v4
def f_X1_purchase (c0 : Nat) (c1 : Nat) (i2 : Int32) (i3 : Int32) (i4 : Int32) (i5 : Int32) (v : VV) : Option (VV) :=
  (F_X1_begin c0 i2 i4 v).bind fun v2 =>
  f_X1_purchase_l10 FU c0 c1 i3 i5 0 v2
abbrev F_X1_purchase (c0 : Nat) (c1 : Nat) (i2 : Int32) (i3 : Int32) (i4 : Int32) (i5 : Int32) (v : VV) : Option (VV) := f_X1_purchase c0 c1 i2 i3 i4 i5 v
set_option maxHeartbeats 4000000 in
set_option maxRecDepth 100000 in
theorem w_X1_purchase_l10 (C : Cx p s m args c cX1_purchase 8 RX1 D cy) (hI : wI LC ad) (hr : meth.sig.returnType = none) (hlk : meth.locks = false) (hR : RoL 2 R) {vZ : VV} : ∀ (n : Nat) (c0 : Nat) (c1 : Nat) (i3 : Int32) (i5 : Int32) (i6 : Int32) (v : VV) (H : Heap) (locs : List Loc) (ls : Array Slot), wk LC c0 1 → wk LC c1 6 → f_X1_purchase_l10 n c0 c1 i3 i5 i6 v = some vZ → va_P D vwCl (wd LC cy ad v) H → va_S (wA LC ad) s.heap H locs → lv_has ls 8 [(0, .ref (ad c0)), (1, .ref (ad c1)), (3, .int i3), (5, .int i5), (6, .int i6)] → W p l e R s m args below meth c H locs 0 0 (MQ below (qvG LC cy ad D vZ) args s 0 0 (wA LC ad)) (F0 m 10 ls []) := by
  intro n
  induction n with
  | zero => intro c0 c1 i3 i5 i6 v H locs ls kc0 kc1 h hP hS hl; exact absurd h (by simp [f_X1_purchase_l10])
  | succ n ih =>
    intro c0 c1 i3 i5 i6 v H locs ls kc0 kc1 h hP hS hl
    rw [f_X1_purchase_l10] at h
    refine lv_iload (pc := 10) C.1 C.2.1 dX1_purchase_10 (lv_at hl 4 rfl) ?_
    refine lv_iload (pc := 12) C.1 C.2.1 dX1_purchase_12 (lv_at hl 3 rfl) ?_
    refine lv_icmp_ge (pc := 14) (tgt := 84) C.1 C.2.1 dX1_purchase_14 (by decide) (fun b14 => ?_) (fun b14 => ?_)
    · replace h := if_t h b14
      exact x_vret (pc := 84) C hr hlk hP hS h dX1_purchase_84
    · replace h := if_f h b14
      refine lv_aload_n (pc := 17) C.1 C.2.1 dX1_purchase_17 rfl (lv_at hl 0 rfl) ?_
      refine x_geti (pc := 18) C hP ck_1 1 fl_X1_15 (by decide) rfl kc0 dX1_purchase_18 ?_
      refine lv_if_le (pc := 21) (tgt := 84) C.1 C.2.1 dX1_purchase_21 (by decide) (fun b21 => ?_) (fun b21 => ?_)
      · replace h := if_t h b21
        exact x_vret (pc := 84) C hr hlk hP hS h dX1_purchase_84
      · replace h := if_f h b21
        refine lv_aload_n (pc := 24) C.1 C.2.1 dX1_purchase_24 rfl (lv_at hl 1 rfl) ?_
        refine lv_aload_n (pc := 25) C.1 C.2.1 dX1_purchase_25 rfl (lv_at hl 0 rfl) ?_
        refine x_geti (pc := 26) C hP ck_1 1 fl_X1_15 (by decide) rfl kc0 dX1_purchase_26 ?_
        obtain ⟨x5, v4, hc3, h⟩ := bi_e h
        refine x_calli (pc := 29) C hP hS mi_X6_priceAt ck_6 kc1 ml_X1_19 (hR.le (by decide)) (Nat.zero_le _) (Nat.zero_le _) [.int (v c0 1)] rfl hl.1 rfl (Nat.le_of_ble_eq_true rfl) dX1_purchase_29 (m_X6_priceAt hI kc1 hc3) (fun H locs hP hS => ?_)
        refine lv_istore (pc := 32) (lv' := [(7, .int x5), (0, .ref (ad c0)), (1, .ref (ad c1)), (3, .int i3), (5, .int i5), (6, .int i6)]) C.1 C.2.1 dX1_purchase_32 hl (by decide) rfl (fun ls hl => ?_)
        refine lv_iload (pc := 34) C.1 C.2.1 dX1_purchase_34 (lv_at hl 0 rfl) ?_
        refine lv_iload_n (pc := 36) C.1 C.2.1 dX1_purchase_36 rfl (lv_at hl 3 rfl) ?_
        refine lv_iadd (pc := 37) C.1 C.2.1 dX1_purchase_37 ?_
        refine lv_aload_n (pc := 38) C.1 C.2.1 dX1_purchase_38 rfl (lv_at hl 1 rfl) ?_
        refine x_geti (pc := 39) C hP ck_1 2 fl_X1_25 (by decide) rfl kc0 dX1_purchase_39 ?_
        refine lv_icmp_le (pc := 42) (tgt := 48) C.1 C.2.1 dX1_purchase_42 (by decide) (fun b42 => ?_) (fun b42 => ?_)
        · replace h := if_t h b42
          refine lv_aload_n (pc := 48) C.1 C.2.1 dX1_purchase_48 rfl (lv_at hl 1 rfl) ?_
          refine lv_dup (pc := 49) C.1 C.2.1 dX1_purchase_49 rfl ?_
          refine x_geti (pc := 50) C hP ck_1 2 fl_X1_25 (by decide) rfl kc0 dX1_purchase_50 ?_
          refine lv_iload (pc := 53) C.1 C.2.1 dX1_purchase_53 (lv_at hl 0 rfl) ?_
          refine lv_iload_n (pc := 55) C.1 C.2.1 dX1_purchase_55 rfl (lv_at hl 3 rfl) ?_
          refine lv_iadd (pc := 56) C.1 C.2.1 dX1_purchase_56 ?_
          refine lv_isub (pc := 57) C.1 C.2.1 dX1_purchase_57 ?_
          refine x_put (pc := 58) C hI hP hS ck_1 2 fl_X1_25 (by decide) rfl rfl kc0 rfl rfl dX1_purchase_58 (fun H locs hP hS => ?_)
          obtain ⟨v6, h, hP⟩ := nv_p (P := fun z => va_P D vwCl (wd LC cy ad z) H) h hP
          refine lv_aload_n (pc := 61) C.1 C.2.1 dX1_purchase_61 rfl (lv_at hl 1 rfl) ?_
          refine lv_dup (pc := 62) C.1 C.2.1 dX1_purchase_62 rfl ?_
          refine x_geti (pc := 63) C hP ck_1 1 fl_X1_15 (by decide) rfl kc0 dX1_purchase_63 ?_
          refine lv_iconst (pc := 66) (v := 1) C.1 C.2.1 dX1_purchase_66 (by decide) ?_
          refine lv_isub (pc := 67) C.1 C.2.1 dX1_purchase_67 ?_
          refine x_put (pc := 68) C hI hP hS ck_1 1 fl_X1_15 (by decide) rfl rfl kc0 rfl rfl dX1_purchase_68 (fun H locs hP hS => ?_)
          obtain ⟨v7, h, hP⟩ := nv_p (P := fun z => va_P D vwCl (wd LC cy ad z) H) h hP
          refine lv_aload_n (pc := 71) C.1 C.2.1 dX1_purchase_71 rfl (lv_at hl 1 rfl) ?_
          refine lv_iload (pc := 72) C.1 C.2.1 dX1_purchase_72 (lv_at hl 0 rfl) ?_
          refine lv_iload_n (pc := 74) C.1 C.2.1 dX1_purchase_74 rfl (lv_at hl 3 rfl) ?_
          obtain ⟨v9, hc8, h⟩ := bd_e h
          refine x_callv (pc := 75) C hP hS mi_X1_count ck_1 kc0 ml_X1_28 (hR.le (by decide)) (Nat.zero_le _) (Nat.zero_le _) [.int x5, .int i3] rfl hl.1 rfl (Nat.le_of_ble_eq_true rfl) dX1_purchase_75 (m_X1_count hI kc0 hc8) (fun H locs hP hS => ?_)
          obtain ⟨x10, ex10⟩ : ∃ y : Int32, y = i6 + 1 := ⟨_, rfl⟩
          replace h := nv_e h ex10
          refine lv_iinc (pc := 78) (v := x10) (lv' := [(6, .int x10), (7, .int x5), (0, .ref (ad c0)), (1, .ref (ad c1)), (3, .int i3), (5, .int i5)]) C.1 C.2.1 dX1_purchase_78 hl (k := 5) rfl (by rw [ex10]; rfl) (by decide) rfl (fun ls hl => ?_)
          clear ex10
          refine lv_goto (pc := 81) (tgt := 10) C.1 C.2.1 dX1_purchase_81 (by decide) ?_
          exact ih c0 c1 i3 i5 x10 v9 _ _ _ kc0 kc1 h hP hS (lv_sub hl [2, 3, 4, 5, 0] rfl)
        · replace h := if_f h b42
          refine lv_goto (pc := 45) (tgt := 84) C.1 C.2.1 dX1_purchase_45 (by decide) ?_
          exact x_vret (pc := 84) C hr hlk hP hS h dX1_purchase_84
set_option maxHeartbeats 4000000 in
set_option maxRecDepth 100000 in
theorem w_X1_purchase (C : Cx p s m args c cX1_purchase 8 RX1 D cy) (hI : wI LC ad) (hr : meth.sig.returnType = none) (hlk : meth.locks = false) (hR : RoL 2 R) {vZ : VV} : ∀ (c0 : Nat) (c1 : Nat) (i2 : Int32) (i3 : Int32) (i4 : Int32) (i5 : Int32) (v : VV) (H : Heap) (locs : List Loc) (ls : Array Slot), wk LC c0 1 → wk LC c1 6 → f_X1_purchase c0 c1 i2 i3 i4 i5 v = some vZ → va_P D vwCl (wd LC cy ad v) H → va_S (wA LC ad) s.heap H locs → lv_has ls 8 [(0, .ref (ad c0)), (1, .ref (ad c1)), (2, .int i2), (3, .int i3), (4, .int i4), (5, .int i5)] → W p l e R s m args below meth c H locs 0 0 (MQ below (qvG LC cy ad D vZ) args s 0 0 (wA LC ad)) (F0 m 0 ls []) := by
  intro c0 c1 i2 i3 i4 i5 v H locs ls kc0 kc1 h hP hS hl
  unfold f_X1_purchase at h
  refine lv_aload_n (pc := 0) C.1 C.2.1 dX1_purchase_0 rfl (lv_at hl 0 rfl) ?_
  refine lv_iload_n (pc := 1) C.1 C.2.1 dX1_purchase_1 rfl (lv_at hl 2 rfl) ?_
  refine lv_iload (pc := 2) C.1 C.2.1 dX1_purchase_2 (lv_at hl 4 rfl) ?_
  obtain ⟨v2, hc1, h⟩ := bd_e h
  refine x_callv (pc := 4) C hP hS mi_X1_begin ck_1 kc0 ml_X1_9 (hR.le (by decide)) (Nat.zero_le _) (Nat.zero_le _) [.int i2, .int i4] rfl hl.1 rfl (Nat.le_of_ble_eq_true rfl) dX1_purchase_4 (m_X1_begin hI kc0 hc1) (fun H locs hP hS => ?_)
  refine lv_iconst (pc := 7) (v := 0) C.1 C.2.1 dX1_purchase_7 (by decide) ?_
  refine lv_istore (pc := 8) (lv' := [(6, .int 0), (0, .ref (ad c0)), (1, .ref (ad c1)), (2, .int i2), (3, .int i3), (4, .int i4), (5, .int i5)]) C.1 C.2.1 dX1_purchase_8 hl (by decide) rfl (fun ls hl => ?_)
  refine w_X1_purchase_l10 C hI hr hlk hR FU c0 c1 i3 i5 0 v2 _ _ _ kc0 kc1 h hP hS (lv_sub hl [1, 2, 4, 6, 0] rfl)
set_option maxRecDepth 100000 in
theorem m_X1_purchase (hI : wI LC ad) {c0 : Nat} {c1 : Nat} {i2 : Int32} {i3 : Int32} {i4 : Int32} {i5 : Int32} {v : VV} {vZ : VV} (kc0 : wk LC c0 1) (kc1 : wk LC c1 6) (h : F_X1_purchase c0 c1 i2 i3 i4 i5 v = some vZ) : Met l yX1_purchase (Cond.code yX1_purchase cX1_purchase 8 none :: wsG) (rmL 2) (pcG LC cy ad D [.ref (ad c0), .ref (ad c1), .int i2, .int i3, .int i4, .int i5] v) (qvG LC cy ad D vZ) 0 0 (wA LC ad) := by
  refine Met.ofW (cc := cX1_purchase) (maxL := 8) (ret := none) (by decide) rfl ?_
  intro p e s m args below meth c s₁ B hml hv
  obtain ⟨rfl, hP, hK⟩ := hv
  have hts := atoms_spec (ws := Cond.code yX1_purchase cX1_purchase 8 none :: wsG) B.pre
  have hown : s.vm.findClass RX1 = some m.cls := findClass_of_methodNamed B.named
  have C : Cx p s m _ c cX1_purchase 8 RX1 D cy := ⟨B.exec, B.bytes, hml, hown, fun w hw => hts w (List.mem_cons_of_mem _ hw), hK⟩
  have hl := lv_entry ([.ref (ad c0), .ref (ad c1), .int i2, .int i3, .int i4, .int i5]) (n := 8) (Nat.le_of_ble_eq_true rfl)
  rw [lg_entry_eq]
  generalize (lg_sl ([.ref (ad c0), .ref (ad c1), .int i2, .int i3, .int i4, .int i5]) ++ List.replicate (8 - (lg_sl ([.ref (ad c0), .ref (ad c1), .int i2, .int i3, .int i4, .int i5])).length) Slot.unset).toArray = ls at hl ⊢
  have hl : lv_has ls 8 [(0, .ref (ad c0)), (1, .ref (ad c1)), (2, .int i2), (3, .int i3), (4, .int i4), (5, .int i5)] := hl
  exact w_X1_purchase C hI B.returns B.notSynchronized (RoL_rm _) c0 c1 i2 i3 i4 i5 v _ _ _ kc0 kc1 h hP va_S.rf (lv_sub hl [0, 1, 2, 3, 4, 5] rfl)
def f_X1_sale_l10 : Nat → Nat → Nat → Int32 → Int32 → Int32 → VV → Option (VV)
  | 0, _, _, _, _, _, _ => none
  | n + 1, c0, c1, i3, i5, i6, v =>
    if (i5 ≤ i6) then
      some v
    else
      if (1000 ≤ (v c0 1)) then
        some v
      else
        bi (F_X6_priceAt c1 ((v c0 1) + 1) v) fun x5 v4 =>
        nv ((if x5 < i3 then x5 else i3)) fun x6 =>
        if ((((v4 c0 2) + x5) - x6) ≤ 1000000) then
          nv (wu v4 c0 2 ((v4 c0 2) + (x5 - x6))) fun v7 =>
          nv (wu v7 c0 1 ((v7 c0 1) + 1)) fun v8 =>
          (F_X1_count c0 x5 x6 v8).bind fun v10 =>
          nv (i6 + 1) fun x11 =>
          f_X1_sale_l10 n c0 c1 i3 i5 x11 v10
        else
          some v4
def f_X1_sale (c0 : Nat) (c1 : Nat) (i2 : Int32) (i3 : Int32) (i4 : Int32) (i5 : Int32) (v : VV) : Option (VV) :=
  (F_X1_begin c0 i2 i4 v).bind fun v2 =>
  f_X1_sale_l10 FU c0 c1 i3 i5 0 v2
abbrev F_X1_sale (c0 : Nat) (c1 : Nat) (i2 : Int32) (i3 : Int32) (i4 : Int32) (i5 : Int32) (v : VV) : Option (VV) := f_X1_sale c0 c1 i2 i3 i4 i5 v
set_option maxHeartbeats 4000000 in
set_option maxRecDepth 100000 in
theorem w_X1_sale_l10 (C : Cx p s m args c cX1_sale 9 RX1 D cy) (hI : wI LC ad) (hr : meth.sig.returnType = none) (hlk : meth.locks = false) (hR : RoL 2 R) {vZ : VV} : ∀ (n : Nat) (c0 : Nat) (c1 : Nat) (i3 : Int32) (i5 : Int32) (i6 : Int32) (v : VV) (H : Heap) (locs : List Loc) (ls : Array Slot), wk LC c0 1 → wk LC c1 6 → f_X1_sale_l10 n c0 c1 i3 i5 i6 v = some vZ → va_P D vwCl (wd LC cy ad v) H → va_S (wA LC ad) s.heap H locs → lv_has ls 9 [(0, .ref (ad c0)), (1, .ref (ad c1)), (3, .int i3), (5, .int i5), (6, .int i6)] → W p l e R s m args below meth c H locs 0 0 (MQ below (qvG LC cy ad D vZ) args s 0 0 (wA LC ad)) (F0 m 10 ls []) := by
  intro n
  induction n with
  | zero => intro c0 c1 i3 i5 i6 v H locs ls kc0 kc1 h hP hS hl; exact absurd h (by simp [f_X1_sale_l10])
  | succ n ih =>
    intro c0 c1 i3 i5 i6 v H locs ls kc0 kc1 h hP hS hl
    rw [f_X1_sale_l10] at h
    refine lv_iload (pc := 10) C.1 C.2.1 dX1_sale_10 (lv_at hl 4 rfl) ?_
    refine lv_iload (pc := 12) C.1 C.2.1 dX1_sale_12 (lv_at hl 3 rfl) ?_
    refine lv_icmp_ge (pc := 14) (tgt := 103) C.1 C.2.1 dX1_sale_14 (by decide) (fun b14 => ?_) (fun b14 => ?_)
    · replace h := if_t h b14
      exact x_vret (pc := 103) C hr hlk hP hS h dX1_sale_103
    · replace h := if_f h b14
      refine lv_aload_n (pc := 17) C.1 C.2.1 dX1_sale_17 rfl (lv_at hl 0 rfl) ?_
      refine x_geti (pc := 18) C hP ck_1 1 fl_X1_15 (by decide) rfl kc0 dX1_sale_18 ?_
      refine lv_sipush (pc := 21) (v := 1000) C.1 C.2.1 dX1_sale_21 (by decide) ?_
      refine lv_icmp_ge (pc := 24) (tgt := 103) C.1 C.2.1 dX1_sale_24 (by decide) (fun b24 => ?_) (fun b24 => ?_)
      · replace h := if_t h b24
        exact x_vret (pc := 103) C hr hlk hP hS h dX1_sale_103
      · replace h := if_f h b24
        refine lv_aload_n (pc := 27) C.1 C.2.1 dX1_sale_27 rfl (lv_at hl 1 rfl) ?_
        refine lv_aload_n (pc := 28) C.1 C.2.1 dX1_sale_28 rfl (lv_at hl 0 rfl) ?_
        refine x_geti (pc := 29) C hP ck_1 1 fl_X1_15 (by decide) rfl kc0 dX1_sale_29 ?_
        refine lv_iconst (pc := 32) (v := 1) C.1 C.2.1 dX1_sale_32 (by decide) ?_
        refine lv_iadd (pc := 33) C.1 C.2.1 dX1_sale_33 ?_
        obtain ⟨x5, v4, hc3, h⟩ := bi_e h
        refine x_calli (pc := 34) C hP hS mi_X6_priceAt ck_6 kc1 ml_X1_19 (hR.le (by decide)) (Nat.zero_le _) (Nat.zero_le _) [.int ((v c0 1) + 1)] rfl hl.1 rfl (Nat.le_of_ble_eq_true rfl) dX1_sale_34 (m_X6_priceAt hI kc1 hc3) (fun H locs hP hS => ?_)
        refine lv_istore (pc := 37) (lv' := [(7, .int x5), (0, .ref (ad c0)), (1, .ref (ad c1)), (3, .int i3), (5, .int i5), (6, .int i6)]) C.1 C.2.1 dX1_sale_37 hl (by decide) rfl (fun ls hl => ?_)
        refine lv_iload_n (pc := 39) C.1 C.2.1 dX1_sale_39 rfl (lv_at hl 3 rfl) ?_
        refine lv_iload (pc := 40) C.1 C.2.1 dX1_sale_40 (lv_at hl 0 rfl) ?_
        refine x_min (pc := 42) C ml_X1_31 (hR.le (by decide)) (Nat.zero_le _) (Nat.zero_le _) hl.1 (Nat.le_of_ble_eq_true rfl) dX1_sale_42 ?_
        refine lv_topi (fun x6 ex6 => ?_)
        replace h := nv_e h ex6
        clear ex6
        refine lv_istore (pc := 45) (lv' := [(8, .int x6), (7, .int x5), (0, .ref (ad c0)), (1, .ref (ad c1)), (3, .int i3), (5, .int i5), (6, .int i6)]) C.1 C.2.1 dX1_sale_45 hl (by decide) rfl (fun ls hl => ?_)
        refine lv_aload_n (pc := 47) C.1 C.2.1 dX1_sale_47 rfl (lv_at hl 2 rfl) ?_
        refine x_geti (pc := 48) C hP ck_1 2 fl_X1_25 (by decide) rfl kc0 dX1_sale_48 ?_
        refine lv_iload (pc := 51) C.1 C.2.1 dX1_sale_51 (lv_at hl 1 rfl) ?_
        refine lv_iadd (pc := 53) C.1 C.2.1 dX1_sale_53 ?_
        refine lv_iload (pc := 54) C.1 C.2.1 dX1_sale_54 (lv_at hl 0 rfl) ?_
        refine lv_isub (pc := 56) C.1 C.2.1 dX1_sale_56 ?_
        refine lv_ldc (pc := 57) (v := 1000000) C.1 C.2.1 C.2.2.2.1 (C.2.2.2.2.1 _ ct_X1_37) dX1_sale_57 ?_
        refine lv_icmp_le (pc := 59) (tgt := 65) C.1 C.2.1 dX1_sale_59 (by decide) (fun b59 => ?_) (fun b59 => ?_)
        · replace h := if_t h b59
          refine lv_aload_n (pc := 65) C.1 C.2.1 dX1_sale_65 rfl (lv_at hl 2 rfl) ?_
          refine lv_dup (pc := 66) C.1 C.2.1 dX1_sale_66 rfl ?_
          refine x_geti (pc := 67) C hP ck_1 2 fl_X1_25 (by decide) rfl kc0 dX1_sale_67 ?_
          refine lv_iload (pc := 70) C.1 C.2.1 dX1_sale_70 (lv_at hl 1 rfl) ?_
          refine lv_iload (pc := 72) C.1 C.2.1 dX1_sale_72 (lv_at hl 0 rfl) ?_
          refine lv_isub (pc := 74) C.1 C.2.1 dX1_sale_74 ?_
          refine lv_iadd (pc := 75) C.1 C.2.1 dX1_sale_75 ?_
          refine x_put (pc := 76) C hI hP hS ck_1 2 fl_X1_25 (by decide) rfl rfl kc0 rfl rfl dX1_sale_76 (fun H locs hP hS => ?_)
          obtain ⟨v7, h, hP⟩ := nv_p (P := fun z => va_P D vwCl (wd LC cy ad z) H) h hP
          refine lv_aload_n (pc := 79) C.1 C.2.1 dX1_sale_79 rfl (lv_at hl 2 rfl) ?_
          refine lv_dup (pc := 80) C.1 C.2.1 dX1_sale_80 rfl ?_
          refine x_geti (pc := 81) C hP ck_1 1 fl_X1_15 (by decide) rfl kc0 dX1_sale_81 ?_
          refine lv_iconst (pc := 84) (v := 1) C.1 C.2.1 dX1_sale_84 (by decide) ?_
          refine lv_iadd (pc := 85) C.1 C.2.1 dX1_sale_85 ?_
          refine x_put (pc := 86) C hI hP hS ck_1 1 fl_X1_15 (by decide) rfl rfl kc0 rfl rfl dX1_sale_86 (fun H locs hP hS => ?_)
          obtain ⟨v8, h, hP⟩ := nv_p (P := fun z => va_P D vwCl (wd LC cy ad z) H) h hP
          refine lv_aload_n (pc := 89) C.1 C.2.1 dX1_sale_89 rfl (lv_at hl 2 rfl) ?_
          refine lv_iload (pc := 90) C.1 C.2.1 dX1_sale_90 (lv_at hl 1 rfl) ?_
          refine lv_iload (pc := 92) C.1 C.2.1 dX1_sale_92 (lv_at hl 0 rfl) ?_
          obtain ⟨v10, hc9, h⟩ := bd_e h
          refine x_callv (pc := 94) C hP hS mi_X1_count ck_1 kc0 ml_X1_28 (hR.le (by decide)) (Nat.zero_le _) (Nat.zero_le _) [.int x5, .int x6] rfl hl.1 rfl (Nat.le_of_ble_eq_true rfl) dX1_sale_94 (m_X1_count hI kc0 hc9) (fun H locs hP hS => ?_)
          obtain ⟨x11, ex11⟩ : ∃ y : Int32, y = i6 + 1 := ⟨_, rfl⟩
          replace h := nv_e h ex11
          refine lv_iinc (pc := 97) (v := x11) (lv' := [(6, .int x11), (8, .int x6), (7, .int x5), (0, .ref (ad c0)), (1, .ref (ad c1)), (3, .int i3), (5, .int i5)]) C.1 C.2.1 dX1_sale_97 hl (k := 6) rfl (by rw [ex11]; rfl) (by decide) rfl (fun ls hl => ?_)
          clear ex11
          refine lv_goto (pc := 100) (tgt := 10) C.1 C.2.1 dX1_sale_100 (by decide) ?_
          exact ih c0 c1 i3 i5 x11 v10 _ _ _ kc0 kc1 h hP hS (lv_sub hl [3, 4, 5, 6, 0] rfl)
        · replace h := if_f h b59
          refine lv_goto (pc := 62) (tgt := 103) C.1 C.2.1 dX1_sale_62 (by decide) ?_
          exact x_vret (pc := 103) C hr hlk hP hS h dX1_sale_103
set_option maxHeartbeats 4000000 in
set_option maxRecDepth 100000 in
theorem w_X1_sale (C : Cx p s m args c cX1_sale 9 RX1 D cy) (hI : wI LC ad) (hr : meth.sig.returnType = none) (hlk : meth.locks = false) (hR : RoL 2 R) {vZ : VV} : ∀ (c0 : Nat) (c1 : Nat) (i2 : Int32) (i3 : Int32) (i4 : Int32) (i5 : Int32) (v : VV) (H : Heap) (locs : List Loc) (ls : Array Slot), wk LC c0 1 → wk LC c1 6 → f_X1_sale c0 c1 i2 i3 i4 i5 v = some vZ → va_P D vwCl (wd LC cy ad v) H → va_S (wA LC ad) s.heap H locs → lv_has ls 9 [(0, .ref (ad c0)), (1, .ref (ad c1)), (2, .int i2), (3, .int i3), (4, .int i4), (5, .int i5)] → W p l e R s m args below meth c H locs 0 0 (MQ below (qvG LC cy ad D vZ) args s 0 0 (wA LC ad)) (F0 m 0 ls []) := by
  intro c0 c1 i2 i3 i4 i5 v H locs ls kc0 kc1 h hP hS hl
  unfold f_X1_sale at h
  refine lv_aload_n (pc := 0) C.1 C.2.1 dX1_sale_0 rfl (lv_at hl 0 rfl) ?_
  refine lv_iload_n (pc := 1) C.1 C.2.1 dX1_sale_1 rfl (lv_at hl 2 rfl) ?_
  refine lv_iload (pc := 2) C.1 C.2.1 dX1_sale_2 (lv_at hl 4 rfl) ?_
  obtain ⟨v2, hc1, h⟩ := bd_e h
  refine x_callv (pc := 4) C hP hS mi_X1_begin ck_1 kc0 ml_X1_9 (hR.le (by decide)) (Nat.zero_le _) (Nat.zero_le _) [.int i2, .int i4] rfl hl.1 rfl (Nat.le_of_ble_eq_true rfl) dX1_sale_4 (m_X1_begin hI kc0 hc1) (fun H locs hP hS => ?_)
  refine lv_iconst (pc := 7) (v := 0) C.1 C.2.1 dX1_sale_7 (by decide) ?_
  refine lv_istore (pc := 8) (lv' := [(6, .int 0), (0, .ref (ad c0)), (1, .ref (ad c1)), (2, .int i2), (3, .int i3), (4, .int i4), (5, .int i5)]) C.1 C.2.1 dX1_sale_8 hl (by decide) rfl (fun ls hl => ?_)
  refine w_X1_sale_l10 C hI hr hlk hR FU c0 c1 i3 i5 0 v2 _ _ _ kc0 kc1 h hP hS (lv_sub hl [1, 2, 4, 6, 0] rfl)
set_option maxRecDepth 100000 in
theorem m_X1_sale (hI : wI LC ad) {c0 : Nat} {c1 : Nat} {i2 : Int32} {i3 : Int32} {i4 : Int32} {i5 : Int32} {v : VV} {vZ : VV} (kc0 : wk LC c0 1) (kc1 : wk LC c1 6) (h : F_X1_sale c0 c1 i2 i3 i4 i5 v = some vZ) : Met l yX1_sale (Cond.code yX1_sale cX1_sale 9 none :: wsG) (rmL 2) (pcG LC cy ad D [.ref (ad c0), .ref (ad c1), .int i2, .int i3, .int i4, .int i5] v) (qvG LC cy ad D vZ) 0 0 (wA LC ad) := by
  refine Met.ofW (cc := cX1_sale) (maxL := 9) (ret := none) (by decide) rfl ?_
  intro p e s m args below meth c s₁ B hml hv
  obtain ⟨rfl, hP, hK⟩ := hv
  have hts := atoms_spec (ws := Cond.code yX1_sale cX1_sale 9 none :: wsG) B.pre
  have hown : s.vm.findClass RX1 = some m.cls := findClass_of_methodNamed B.named
  have C : Cx p s m _ c cX1_sale 9 RX1 D cy := ⟨B.exec, B.bytes, hml, hown, fun w hw => hts w (List.mem_cons_of_mem _ hw), hK⟩
  have hl := lv_entry ([.ref (ad c0), .ref (ad c1), .int i2, .int i3, .int i4, .int i5]) (n := 9) (Nat.le_of_ble_eq_true rfl)
  rw [lg_entry_eq]
  generalize (lg_sl ([.ref (ad c0), .ref (ad c1), .int i2, .int i3, .int i4, .int i5]) ++ List.replicate (9 - (lg_sl ([.ref (ad c0), .ref (ad c1), .int i2, .int i3, .int i4, .int i5])).length) Slot.unset).toArray = ls at hl ⊢
  have hl : lv_has ls 9 [(0, .ref (ad c0)), (1, .ref (ad c1)), (2, .int i2), (3, .int i3), (4, .int i4), (5, .int i5)] := hl
  exact w_X1_sale C hI B.returns B.notSynchronized (RoL_rm _) c0 c1 i2 i3 i4 i5 v _ _ _ kc0 kc1 h hP va_S.rf (lv_sub hl [0, 1, 2, 3, 4, 5] rfl)
end
