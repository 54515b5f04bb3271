section
variable {p : Program} {l : Launch} {e : Env} {R : Room} {s : State} {m : MethodId} {args : Array Value} {below : List Frame} {meth : Method} {c : Code} {D : va_G} {cy : Nat → ClassId} {ad : Nat → Nat}
def f_X4_hungerOfAll_l4 : Nat → Nat → Int32 → Int32 → VV → Option (Int32 × VV)
  | 0, _, _, _, _ => none
  | n + 1, c0, i1, i2, v =>
    if (3 ≤ i2) then
      some (i1, v)
    else
      gd (inB i2 (lnC (rfC c0 0)) = true) <|
      nv ((i1 + (v (rfC (rfC c0 0) (Int32.toNatClampNeg i2)) 6))) fun x4 =>
      nv (i2 + 1) fun x5 =>
      f_X4_hungerOfAll_l4 n c0 x4 x5 v
def f_X4_hungerOfAll (c0 : Nat) (v : VV) : Option (Int32 × VV) :=
  f_X4_hungerOfAll_l4 FU c0 0 0 v
abbrev F_X4_hungerOfAll (c0 : Nat) (v : VV) : Option (Int32 × VV) := f_X4_hungerOfAll c0 v
set_option maxHeartbeats 4000000 in
set_option maxRecDepth 100000 in
theorem w_X4_hungerOfAll_l4 (C : Cx p s m args c cX4_hungerOfAll 3 RX4 D cy) (hI : wI LC ad) (hr : meth.sig.returnType = some .int) (hlk : meth.locks = false) (hR : RoL 1 R) {rZ : Int32} {vZ : VV} : ∀ (n : Nat) (c0 : Nat) (i1 : Int32) (i2 : Int32) (v : VV) (H : Heap) (locs : List Loc) (ls : Array Slot), wk LC c0 4 → f_X4_hungerOfAll_l4 n c0 i1 i2 v = some (rZ, vZ) → va_P D vwCl (wd LC cy ad v) H → va_S (wA LC ad) s.heap H locs → lv_has ls 3 [(0, .ref (ad c0)), (1, .int i1), (2, .int i2)] → W p l e R s m args below meth c H locs 0 0 (MQ below (qiG LC cy ad D rZ vZ) args s 0 0 (wA LC ad)) (F0 m 4 ls []) := by
  intro n
  induction n with
  | zero => intro c0 i1 i2 v H locs ls kc0 h hP hS hl; exact absurd h (by simp [f_X4_hungerOfAll_l4])
  | succ n ih =>
    intro c0 i1 i2 v H locs ls kc0 h hP hS hl
    rw [f_X4_hungerOfAll_l4] at h
    refine lv_iload_n (pc := 4) C.1 C.2.1 dX4_hungerOfAll_4 rfl (lv_at hl 2 rfl) ?_
    refine lv_iconst (pc := 5) (v := 3) C.1 C.2.1 dX4_hungerOfAll_5 (by decide) ?_
    refine lv_icmp_ge (pc := 6) (tgt := 27) C.1 C.2.1 dX4_hungerOfAll_6 (by decide) (fun b6 => ?_) (fun b6 => ?_)
    · replace h := if_t h b6
      refine lv_iload_n (pc := 27) C.1 C.2.1 dX4_hungerOfAll_27 rfl (lv_at hl 1 rfl) ?_
      exact x_iret (pc := 28) C hr hlk hP hS h dX4_hungerOfAll_28
    · replace h := if_f h b6
      refine lv_iload_n (pc := 9) C.1 C.2.1 dX4_hungerOfAll_9 rfl (lv_at hl 1 rfl) ?_
      refine lv_aload_n (pc := 10) C.1 C.2.1 dX4_hungerOfAll_10 rfl (lv_at hl 0 rfl) ?_
      refine x_getr (pc := 11) C hP ck_4 0 fl_X4_11 (by decide) rfl kc0 dX4_hungerOfAll_11 ?_
      have k1 : wk LC (rfC c0 0) 15 := wt_f wT_C kc0 0 (by decide) rfl rfl
      refine lv_iload_n (pc := 14) C.1 C.2.1 dX4_hungerOfAll_14 rfl (lv_at hl 2 rfl) ?_
      obtain ⟨g2, h⟩ := gd_e h
      refine x_aald (pc := 15) C hP k1 (by decide) (by decide) (inB_vp g2) dX4_hungerOfAll_15 ?_
      have k3 : wk LC (rfC (rfC c0 0) (Int32.toNatClampNeg i2)) 6 := wt_a wT_C k1 (by decide) (inB_vp g2) rfl
      refine x_geti (pc := 16) C hP ck_6 6 fl_X4_20 (by decide) rfl k3 dX4_hungerOfAll_16 ?_
      refine lv_iadd (pc := 19) C.1 C.2.1 dX4_hungerOfAll_19 ?_
      refine lv_topi (fun x4 ex4 => ?_)
      replace h := nv_e h ex4
      clear ex4
      refine lv_istore_n (pc := 20) (lv' := [(1, .int x4), (0, .ref (ad c0)), (2, .int i2)]) C.1 C.2.1 dX4_hungerOfAll_20 rfl hl (by decide) rfl (fun ls hl => ?_)
      obtain ⟨x5, ex5⟩ : ∃ y : Int32, y = i2 + 1 := ⟨_, rfl⟩
      replace h := nv_e h ex5
      refine lv_iinc (pc := 21) (v := x5) (lv' := [(2, .int x5), (1, .int x4), (0, .ref (ad c0))]) C.1 C.2.1 dX4_hungerOfAll_21 hl (k := 2) rfl (by rw [ex5]; rfl) (by decide) rfl (fun ls hl => ?_)
      clear ex5
      refine lv_goto (pc := 24) (tgt := 4) C.1 C.2.1 dX4_hungerOfAll_24 (by decide) ?_
      exact ih c0 x4 x5 v _ _ _ kc0 h hP hS (lv_sub hl [2, 1, 0] rfl)
set_option maxHeartbeats 4000000 in
set_option maxRecDepth 100000 in
theorem w_X4_hungerOfAll (C : Cx p s m args c cX4_hungerOfAll 3 RX4 D cy) (hI : wI LC ad) (hr : meth.sig.returnType = some .int) (hlk : meth.locks = false) (hR : RoL 1 R) {rZ : Int32} {vZ : VV} : ∀ (c0 : Nat) (v : VV) (H : Heap) (locs : List Loc) (ls : Array Slot), wk LC c0 4 → f_X4_hungerOfAll c0 v = some (rZ, vZ) → va_P D vwCl (wd LC cy ad v) H → va_S (wA LC ad) s.heap H locs → lv_has ls 3 [(0, .ref (ad c0))] → W p l e R s m args below meth c H locs 0 0 (MQ below (qiG LC cy ad D rZ vZ) args s 0 0 (wA LC ad)) (F0 m 0 ls []) := by
  intro c0 v H locs ls kc0 h hP hS hl
  unfold f_X4_hungerOfAll at h
  refine lv_iconst (pc := 0) (v := 0) C.1 C.2.1 dX4_hungerOfAll_0 (by decide) ?_
  refine lv_istore_n (pc := 1) (lv' := [(1, .int 0), (0, .ref (ad c0))]) C.1 C.2.1 dX4_hungerOfAll_1 rfl hl (by decide) rfl (fun ls hl => ?_)
  refine lv_iconst (pc := 2) (v := 0) C.1 C.2.1 dX4_hungerOfAll_2 (by decide) ?_
  refine lv_istore_n (pc := 3) (lv' := [(2, .int 0), (1, .int 0), (0, .ref (ad c0))]) C.1 C.2.1 dX4_hungerOfAll_3 rfl hl (by decide) rfl (fun ls hl => ?_)
  refine w_X4_hungerOfAll_l4 C hI hr hlk hR FU c0 0 0 v _ _ _ kc0 h hP hS (lv_sub hl [2, 1, 0] rfl)
set_option maxRecDepth 100000 in
theorem m_X4_hungerOfAll (hI : wI LC ad) {c0 : Nat} {v : VV} {rZ : Int32} {vZ : VV} (kc0 : wk LC c0 4) (h : F_X4_hungerOfAll c0 v = some (rZ, vZ)) : Met l yX4_hungerOfAll (Cond.code yX4_hungerOfAll cX4_hungerOfAll 3 (some .int) :: wsG) (rmL 1) (pcG LC cy ad D [.ref (ad c0)] v) (qiG LC cy ad D rZ vZ) 0 0 (wA LC ad) := by
  refine Met.ofW (cc := cX4_hungerOfAll) (maxL := 3) (ret := (some .int)) (by decide) rfl ?_
  intro p e s m args below meth c s₁ B hml hv
  obtain ⟨rfl, hP, hK⟩ := hv
  have hts := atoms_spec (ws := Cond.code yX4_hungerOfAll cX4_hungerOfAll 3 (some .int) :: wsG) B.pre
  have hown : s.vm.findClass RX4 = some m.cls := findClass_of_methodNamed B.named
  have C : Cx p s m _ c cX4_hungerOfAll 3 RX4 D cy := ⟨B.exec, B.bytes, hml, hown, fun w hw => hts w (List.mem_cons_of_mem _ hw), hK⟩
  have hl := lv_entry ([.ref (ad c0)]) (n := 3) (Nat.le_of_ble_eq_true rfl)
  rw [lg_entry_eq]
  generalize (lg_sl ([.ref (ad c0)]) ++ List.replicate (3 - (lg_sl ([.ref (ad c0)])).length) Slot.unset).toArray = ls at hl ⊢
  have hl : lv_has ls 3 [(0, .ref (ad c0))] := hl
  exact w_X4_hungerOfAll C hI B.returns B.notSynchronized (RoL_rm _) c0 v _ _ _ kc0 h hP va_S.rf (lv_sub hl [0] rfl)
def f_X6_number (c0 : Nat) (i1 : Int32) (v : VV) : Option (Int32 × VV) :=
  if i1 = 0 then
    some ((v c0 1), v)
  else
  if i1 = 1 then
    some ((v c0 2), v)
  else
  if i1 = 2 then
    some ((v c0 3), v)
  else
  if i1 = 3 then
    some ((v c0 4), v)
  else
  if i1 = 4 then
    some ((v c0 5), v)
  else
  if i1 = 5 then
    bi (F_X6_priceAt c0 (v c0 1) v) fun x3 v2 =>
    some (x3, v2)
  else
  some ((v c0 6), v)
abbrev F_X6_number (c0 : Nat) (i1 : Int32) (v : VV) : Option (Int32 × VV) := f_X6_number c0 i1 v
set_option maxHeartbeats 4000000 in
set_option maxRecDepth 100000 in
theorem w_X6_number (C : Cx p s m args c cX6_number 2 RX6 D cy) (hI : wI LC ad) (hr : meth.sig.returnType = some .int) (hlk : meth.locks = false) (hR : RoL 2 R) {rZ : Int32} {vZ : VV} : ∀ (c0 : Nat) (i1 : Int32) (v : VV) (H : Heap) (locs : List Loc) (ls : Array Slot), wk LC c0 6 → f_X6_number c0 i1 v = some (rZ, vZ) → va_P D vwCl (wd LC cy ad v) H → va_S (wA LC ad) s.heap H locs → lv_has ls 2 [(0, .ref (ad c0)), (1, .int i1)] → W p l e R s m args below meth c H locs 0 0 (MQ below (qiG LC cy ad D rZ vZ) args s 0 0 (wA LC ad)) (F0 m 0 ls []) := by
  intro c0 i1 v H locs ls kc0 h hP hS hl
  unfold f_X6_number at h
  refine lv_iload_n (pc := 0) C.1 C.2.1 dX6_number_0 rfl (lv_at hl 1 rfl) ?_
  by_cases b1_0 : i1 = 0
  · replace h := if_t h b1_0
    refine x_swIn (pc := 1) C (tgt := 40) 0 0 (by decide) b1_0 dX6_number_1 (by decide) rfl (by decide) ?_
    refine lv_aload_n (pc := 40) C.1 C.2.1 dX6_number_40 rfl (lv_at hl 0 rfl) ?_
    refine x_geti (pc := 41) C hP ck_6 1 fl_X6_27 (by decide) rfl kc0 dX6_number_41 ?_
    exact x_iret (pc := 44) C hr hlk hP hS h dX6_number_44
  replace h := if_f h b1_0
  by_cases b1_1 : i1 = 1
  · replace h := if_t h b1_1
    refine x_swIn (pc := 1) C (tgt := 45) 1 1 (by decide) b1_1 dX6_number_1 (by decide) rfl (by decide) ?_
    refine lv_aload_n (pc := 45) C.1 C.2.1 dX6_number_45 rfl (lv_at hl 0 rfl) ?_
    refine x_geti (pc := 46) C hP ck_6 2 fl_X6_30 (by decide) rfl kc0 dX6_number_46 ?_
    exact x_iret (pc := 49) C hr hlk hP hS h dX6_number_49
  replace h := if_f h b1_1
  by_cases b1_2 : i1 = 2
  · replace h := if_t h b1_2
    refine x_swIn (pc := 1) C (tgt := 50) 2 2 (by decide) b1_2 dX6_number_1 (by decide) rfl (by decide) ?_
    refine lv_aload_n (pc := 50) C.1 C.2.1 dX6_number_50 rfl (lv_at hl 0 rfl) ?_
    refine x_geti (pc := 51) C hP ck_6 3 fl_X6_33 (by decide) rfl kc0 dX6_number_51 ?_
    exact x_iret (pc := 54) C hr hlk hP hS h dX6_number_54
  replace h := if_f h b1_2
  by_cases b1_3 : i1 = 3
  · replace h := if_t h b1_3
    refine x_swIn (pc := 1) C (tgt := 55) 3 3 (by decide) b1_3 dX6_number_1 (by decide) rfl (by decide) ?_
    refine lv_aload_n (pc := 55) C.1 C.2.1 dX6_number_55 rfl (lv_at hl 0 rfl) ?_
    refine x_geti (pc := 56) C hP ck_6 4 fl_X6_15 (by decide) rfl kc0 dX6_number_56 ?_
    exact x_iret (pc := 59) C hr hlk hP hS h dX6_number_59
  replace h := if_f h b1_3
  by_cases b1_4 : i1 = 4
  · replace h := if_t h b1_4
    refine x_swIn (pc := 1) C (tgt := 60) 4 4 (by decide) b1_4 dX6_number_1 (by decide) rfl (by decide) ?_
    refine lv_aload_n (pc := 60) C.1 C.2.1 dX6_number_60 rfl (lv_at hl 0 rfl) ?_
    refine x_geti (pc := 61) C hP ck_6 5 fl_X6_18 (by decide) rfl kc0 dX6_number_61 ?_
    exact x_iret (pc := 64) C hr hlk hP hS h dX6_number_64
  replace h := if_f h b1_4
  by_cases b1_5 : i1 = 5
  · replace h := if_t h b1_5
    refine x_swIn (pc := 1) C (tgt := 65) 5 5 (by decide) b1_5 dX6_number_1 (by decide) rfl (by decide) ?_
    refine lv_aload_n (pc := 65) C.1 C.2.1 dX6_number_65 rfl (lv_at hl 0 rfl) ?_
    refine lv_aload_n (pc := 66) C.1 C.2.1 dX6_number_66 rfl (lv_at hl 0 rfl) ?_
    refine x_geti (pc := 67) C hP ck_6 1 fl_X6_27 (by decide) rfl kc0 dX6_number_67 ?_
    obtain ⟨x3, v2, hc1, h⟩ := bi_e h
    refine x_calli (pc := 70) C hP hS mi_X6_priceAt ck_6 kc0 ml_X6_36 (hR.le (by decide)) (Nat.zero_le _) (Nat.zero_le _) [.int (v c0 1)] rfl hl.1 rfl (Nat.le_of_ble_eq_true rfl) dX6_number_70 (m_X6_priceAt hI kc0 hc1) (fun H locs hP hS => ?_)
    exact x_iret (pc := 73) C hr hlk hP hS h dX6_number_73
  replace h := if_f h b1_5
  refine x_swOut (pc := 1) C (tgt := 74) dX6_number_1 (by have := lv_neT b1_0 (a := 0) (by decide); have := lv_neT b1_1 (a := 1) (by decide); have := lv_neT b1_2 (a := 2) (by decide); have := lv_neT b1_3 (a := 3) (by decide); have := lv_neT b1_4 (a := 4) (by decide); have := lv_neT b1_5 (a := 5) (by decide); omega) (by decide) ?_
  refine lv_aload_n (pc := 74) C.1 C.2.1 dX6_number_74 rfl (lv_at hl 0 rfl) ?_
  refine x_geti (pc := 75) C hP ck_6 6 fl_X6_40 (by decide) rfl kc0 dX6_number_75 ?_
  exact x_iret (pc := 78) C hr hlk hP hS h dX6_number_78
set_option maxRecDepth 100000 in
theorem m_X6_number (hI : wI LC ad) {c0 : Nat} {i1 : Int32} {v : VV} {rZ : Int32} {vZ : VV} (kc0 : wk LC c0 6) (h : F_X6_number c0 i1 v = some (rZ, vZ)) : Met l yX6_number (Cond.code yX6_number cX6_number 2 (some .int) :: wsG) (rmL 2) (pcG LC cy ad D [.ref (ad c0), .int i1] v) (qiG LC cy ad D rZ vZ) 0 0 (wA LC ad) := by
  refine Met.ofW (cc := cX6_number) (maxL := 2) (ret := (some .int)) (by decide) rfl ?_
  intro p e s m args below meth c s₁ B hml hv
  obtain ⟨rfl, hP, hK⟩ := hv
  have hts := atoms_spec (ws := Cond.code yX6_number cX6_number 2 (some .int) :: wsG) B.pre
  have hown : s.vm.findClass RX6 = some m.cls := findClass_of_methodNamed B.named
  have C : Cx p s m _ c cX6_number 2 RX6 D cy := ⟨B.exec, B.bytes, hml, hown, fun w hw => hts w (List.mem_cons_of_mem _ hw), hK⟩
  have hl := lv_entry ([.ref (ad c0), .int i1]) (n := 2) (Nat.le_of_ble_eq_true rfl)
  rw [lg_entry_eq]
  generalize (lg_sl ([.ref (ad c0), .int i1]) ++ List.replicate (2 - (lg_sl ([.ref (ad c0), .int i1])).length) Slot.unset).toArray = ls at hl ⊢
  have hl : lv_has ls 2 [(0, .ref (ad c0)), (1, .int i1)] := hl
  exact w_X6_number C hI B.returns B.notSynchronized (RoL_rm _) c0 i1 v _ _ _ kc0 h hP va_S.rf (lv_sub hl [0, 1] rfl)
def f_X6_change (c0 : Nat) (i1 : Int32) (i2 : Int32) (v : VV) : Option (VV) :=
  if i1 = 0 then
    nv (wu v c0 1 i2) fun v1 =>
    some v1
  else
  if i1 = 1 then
    nv (wu v c0 2 i2) fun v2 =>
    some v2
  else
  if i1 = 2 then
    nv (wu v c0 3 i2) fun v3 =>
    some v3
  else
  if i1 = 3 then
    nv (wu v c0 4 i2) fun v4 =>
    some v4
  else
  nv (wu v c0 5 i2) fun v5 =>
  some v5
abbrev F_X6_change (c0 : Nat) (i1 : Int32) (i2 : Int32) (v : VV) : Option (VV) := f_X6_change c0 i1 i2 v
set_option maxHeartbeats 4000000 in
set_option maxRecDepth 100000 in
theorem w_X6_change (C : Cx p s m args c cX6_change 3 RX6 D cy) (hI : wI LC ad) (hr : meth.sig.returnType = none) (hlk : meth.locks = false) (hR : RoL 1 R) {vZ : VV} : ∀ (c0 : Nat) (i1 : Int32) (i2 : Int32) (v : VV) (H : Heap) (locs : List Loc) (ls : Array Slot), wk LC c0 6 → f_X6_change c0 i1 i2 v = some vZ → va_P D vwCl (wd LC cy ad v) H → va_S (wA LC ad) s.heap H locs → lv_has ls 3 [(0, .ref (ad c0)), (1, .int i1), (2, .int i2)] → W p l e R s m args below meth c H locs 0 0 (MQ below (qvG LC cy ad D vZ) args s 0 0 (wA LC ad)) (F0 m 0 ls []) := by
  intro c0 i1 i2 v H locs ls kc0 h hP hS hl
  unfold f_X6_change at h
  refine lv_iload_n (pc := 0) C.1 C.2.1 dX6_change_0 rfl (lv_at hl 1 rfl) ?_
  by_cases b1_0 : i1 = 0
  · replace h := if_t h b1_0
    refine x_swIn (pc := 1) C (tgt := 32) 0 0 (by decide) b1_0 dX6_change_1 (by decide) rfl (by decide) ?_
    refine lv_aload_n (pc := 32) C.1 C.2.1 dX6_change_32 rfl (lv_at hl 0 rfl) ?_
    refine lv_iload_n (pc := 33) C.1 C.2.1 dX6_change_33 rfl (lv_at hl 2 rfl) ?_
    refine x_put (pc := 34) C hI hP hS ck_6 1 fl_X6_27 (by decide) rfl rfl kc0 rfl rfl dX6_change_34 (fun H locs hP hS => ?_)
    obtain ⟨v1, h, hP⟩ := nv_p (P := fun z => va_P D vwCl (wd LC cy ad z) H) h hP
    refine lv_goto (pc := 37) (tgt := 69) C.1 C.2.1 dX6_change_37 (by decide) ?_
    exact x_vret (pc := 69) C hr hlk hP hS h dX6_change_69
  replace h := if_f h b1_0
  by_cases b1_1 : i1 = 1
  · replace h := if_t h b1_1
    refine x_swIn (pc := 1) C (tgt := 40) 1 1 (by decide) b1_1 dX6_change_1 (by decide) rfl (by decide) ?_
    refine lv_aload_n (pc := 40) C.1 C.2.1 dX6_change_40 rfl (lv_at hl 0 rfl) ?_
    refine lv_iload_n (pc := 41) C.1 C.2.1 dX6_change_41 rfl (lv_at hl 2 rfl) ?_
    refine x_put (pc := 42) C hI hP hS ck_6 2 fl_X6_30 (by decide) rfl rfl kc0 rfl rfl dX6_change_42 (fun H locs hP hS => ?_)
    obtain ⟨v2, h, hP⟩ := nv_p (P := fun z => va_P D vwCl (wd LC cy ad z) H) h hP
    refine lv_goto (pc := 45) (tgt := 69) C.1 C.2.1 dX6_change_45 (by decide) ?_
    exact x_vret (pc := 69) C hr hlk hP hS h dX6_change_69
  replace h := if_f h b1_1
  by_cases b1_2 : i1 = 2
  · replace h := if_t h b1_2
    refine x_swIn (pc := 1) C (tgt := 48) 2 2 (by decide) b1_2 dX6_change_1 (by decide) rfl (by decide) ?_
    refine lv_aload_n (pc := 48) C.1 C.2.1 dX6_change_48 rfl (lv_at hl 0 rfl) ?_
    refine lv_iload_n (pc := 49) C.1 C.2.1 dX6_change_49 rfl (lv_at hl 2 rfl) ?_
    refine x_put (pc := 50) C hI hP hS ck_6 3 fl_X6_33 (by decide) rfl rfl kc0 rfl rfl dX6_change_50 (fun H locs hP hS => ?_)
    obtain ⟨v3, h, hP⟩ := nv_p (P := fun z => va_P D vwCl (wd LC cy ad z) H) h hP
    refine lv_goto (pc := 53) (tgt := 69) C.1 C.2.1 dX6_change_53 (by decide) ?_
    exact x_vret (pc := 69) C hr hlk hP hS h dX6_change_69
  replace h := if_f h b1_2
  by_cases b1_3 : i1 = 3
  · replace h := if_t h b1_3
    refine x_swIn (pc := 1) C (tgt := 56) 3 3 (by decide) b1_3 dX6_change_1 (by decide) rfl (by decide) ?_
    refine lv_aload_n (pc := 56) C.1 C.2.1 dX6_change_56 rfl (lv_at hl 0 rfl) ?_
    refine lv_iload_n (pc := 57) C.1 C.2.1 dX6_change_57 rfl (lv_at hl 2 rfl) ?_
    refine x_put (pc := 58) C hI hP hS ck_6 4 fl_X6_15 (by decide) rfl rfl kc0 rfl rfl dX6_change_58 (fun H locs hP hS => ?_)
    obtain ⟨v4, h, hP⟩ := nv_p (P := fun z => va_P D vwCl (wd LC cy ad z) H) h hP
    refine lv_goto (pc := 61) (tgt := 69) C.1 C.2.1 dX6_change_61 (by decide) ?_
    exact x_vret (pc := 69) C hr hlk hP hS h dX6_change_69
  replace h := if_f h b1_3
  refine x_swOut (pc := 1) C (tgt := 64) dX6_change_1 (by have := lv_neT b1_0 (a := 0) (by decide); have := lv_neT b1_1 (a := 1) (by decide); have := lv_neT b1_2 (a := 2) (by decide); have := lv_neT b1_3 (a := 3) (by decide); omega) (by decide) ?_
  refine lv_aload_n (pc := 64) C.1 C.2.1 dX6_change_64 rfl (lv_at hl 0 rfl) ?_
  refine lv_iload_n (pc := 65) C.1 C.2.1 dX6_change_65 rfl (lv_at hl 2 rfl) ?_
  refine x_put (pc := 66) C hI hP hS ck_6 5 fl_X6_18 (by decide) rfl rfl kc0 rfl rfl dX6_change_66 (fun H locs hP hS => ?_)
  obtain ⟨v5, h, hP⟩ := nv_p (P := fun z => va_P D vwCl (wd LC cy ad z) H) h hP
  exact x_vret (pc := 69) C hr hlk hP hS h dX6_change_69
set_option maxRecDepth 100000 in
theorem m_X6_change (hI : wI LC ad) {c0 : Nat} {i1 : Int32} {i2 : Int32} {v : VV} {vZ : VV} (kc0 : wk LC c0 6) (h : F_X6_change c0 i1 i2 v = some vZ) : Met l yX6_change (Cond.code yX6_change cX6_change 3 none :: wsG) (rmL 1) (pcG LC cy ad D [.ref (ad c0), .int i1, .int i2] v) (qvG LC cy ad D vZ) 0 0 (wA LC ad) := by
  refine Met.ofW (cc := cX6_change) (maxL := 3) (ret := none) (by decide) rfl ?_
  intro p e s m args below meth c s₁ B hml hv
  obtain ⟨rfl, hP, hK⟩ := hv
  have hts := atoms_spec (ws := Cond.code yX6_change cX6_change 3 none :: wsG) B.pre
  have hown : s.vm.findClass RX6 = some m.cls := findClass_of_methodNamed B.named
  have C : Cx p s m _ c cX6_change 3 RX6 D cy := ⟨B.exec, B.bytes, hml, hown, fun w hw => hts w (List.mem_cons_of_mem _ hw), hK⟩
  have hl := lv_entry ([.ref (ad c0), .int i1, .int i2]) (n := 3) (Nat.le_of_ble_eq_true rfl)
  rw [lg_entry_eq]
  generalize (lg_sl ([.ref (ad c0), .int i1, .int i2]) ++ List.replicate (3 - (lg_sl ([.ref (ad c0), .int i1, .int i2])).length) Slot.unset).toArray = ls at hl ⊢
  have hl : lv_has ls 3 [(0, .ref (ad c0)), (1, .int i1), (2, .int i2)] := hl
  exact w_X6_change C hI B.returns B.notSynchronized (RoL_rm _) c0 i1 i2 v _ _ _ kc0 h hP va_S.rf (lv_sub hl [0, 1, 2] rfl)
def f_X7_load_l4 : Nat → Nat → Int32 → Int32 → VV → Option (Int32 × VV)
  | 0, _, _, _, _ => none
  | n + 1, c0, i1, i2, v =>
    if (3 ≤ i2) then
      some (i1, v)
    else
      gd (inB i2 (lnC (rfC c0 3)) = true) <|
      nv ((i1 + (v (rfC c0 3) (Int32.toNatClampNeg i2)))) fun x3 =>
      nv (i2 + 1) fun x4 =>
      f_X7_load_l4 n c0 x3 x4 v
def f_X7_load (c0 : Nat) (v : VV) : Option (Int32 × VV) :=
  f_X7_load_l4 FU c0 0 0 v
abbrev F_X7_load (c0 : Nat) (v : VV) : Option (Int32 × VV) := f_X7_load c0 v
set_option maxHeartbeats 4000000 in
set_option maxRecDepth 100000 in
theorem w_X7_load_l4 (C : Cx p s m args c cX7_load 3 RX7 D cy) (hI : wI LC ad) (hr : meth.sig.returnType = some .int) (hlk : meth.locks = false) (hR : RoL 1 R) {rZ : Int32} {vZ : VV} : ∀ (n : Nat) (c0 : Nat) (i1 : Int32) (i2 : Int32) (v : VV) (H : Heap) (locs : List Loc) (ls : Array Slot), wk LC c0 7 → f_X7_load_l4 n c0 i1 i2 v = some (rZ, vZ) → va_P D vwCl (wd LC cy ad v) H → va_S (wA LC ad) s.heap H locs → lv_has ls 3 [(0, .ref (ad c0)), (1, .int i1), (2, .int i2)] → W p l e R s m args below meth c H locs 0 0 (MQ below (qiG LC cy ad D rZ vZ) args s 0 0 (wA LC ad)) (F0 m 4 ls []) := by
  intro n
  induction n with
  | zero => intro c0 i1 i2 v H locs ls kc0 h hP hS hl; exact absurd h (by simp [f_X7_load_l4])
  | succ n ih =>
    intro c0 i1 i2 v H locs ls kc0 h hP hS hl
    rw [f_X7_load_l4] at h
    refine lv_iload_n (pc := 4) C.1 C.2.1 dX7_load_4 rfl (lv_at hl 2 rfl) ?_
    refine lv_iconst (pc := 5) (v := 3) C.1 C.2.1 dX7_load_5 (by decide) ?_
    refine lv_icmp_ge (pc := 6) (tgt := 24) C.1 C.2.1 dX7_load_6 (by decide) (fun b6 => ?_) (fun b6 => ?_)
    · replace h := if_t h b6
      refine lv_iload_n (pc := 24) C.1 C.2.1 dX7_load_24 rfl (lv_at hl 1 rfl) ?_
      exact x_iret (pc := 25) C hr hlk hP hS h dX7_load_25
    · replace h := if_f h b6
      refine lv_iload_n (pc := 9) C.1 C.2.1 dX7_load_9 rfl (lv_at hl 1 rfl) ?_
      refine lv_aload_n (pc := 10) C.1 C.2.1 dX7_load_10 rfl (lv_at hl 0 rfl) ?_
      refine x_getr (pc := 11) C hP ck_7 3 fl_X7_9 (by decide) rfl kc0 dX7_load_11 ?_
      have k1 : wk LC (rfC c0 3) 12 := wt_f wT_C kc0 3 (by decide) rfl rfl
      refine lv_iload_n (pc := 14) C.1 C.2.1 dX7_load_14 rfl (lv_at hl 2 rfl) ?_
      obtain ⟨g2, h⟩ := gd_e h
      refine x_iald (pc := 15) C hP k1 (inB_vp g2) dX7_load_15 ?_
      refine lv_iadd (pc := 16) C.1 C.2.1 dX7_load_16 ?_
      refine lv_topi (fun x3 ex3 => ?_)
      replace h := nv_e h ex3
      clear ex3
      refine lv_istore_n (pc := 17) (lv' := [(1, .int x3), (0, .ref (ad c0)), (2, .int i2)]) C.1 C.2.1 dX7_load_17 rfl hl (by decide) rfl (fun ls hl => ?_)
      obtain ⟨x4, ex4⟩ : ∃ y : Int32, y = i2 + 1 := ⟨_, rfl⟩
      replace h := nv_e h ex4
      refine lv_iinc (pc := 18) (v := x4) (lv' := [(2, .int x4), (1, .int x3), (0, .ref (ad c0))]) C.1 C.2.1 dX7_load_18 hl (k := 2) rfl (by rw [ex4]; rfl) (by decide) rfl (fun ls hl => ?_)
      clear ex4
      refine lv_goto (pc := 21) (tgt := 4) C.1 C.2.1 dX7_load_21 (by decide) ?_
      exact ih c0 x3 x4 v _ _ _ kc0 h hP hS (lv_sub hl [2, 1, 0] rfl)
set_option maxHeartbeats 4000000 in
set_option maxRecDepth 100000 in
theorem w_X7_load (C : Cx p s m args c cX7_load 3 RX7 D cy) (hI : wI LC ad) (hr : meth.sig.returnType = some .int) (hlk : meth.locks = false) (hR : RoL 1 R) {rZ : Int32} {vZ : VV} : ∀ (c0 : Nat) (v : VV) (H : Heap) (locs : List Loc) (ls : Array Slot), wk LC c0 7 → f_X7_load c0 v = some (rZ, vZ) → va_P D vwCl (wd LC cy ad v) H → va_S (wA LC ad) s.heap H locs → lv_has ls 3 [(0, .ref (ad c0))] → W p l e R s m args below meth c H locs 0 0 (MQ below (qiG LC cy ad D rZ vZ) args s 0 0 (wA LC ad)) (F0 m 0 ls []) := by
  intro c0 v H locs ls kc0 h hP hS hl
  unfold f_X7_load at h
  refine lv_iconst (pc := 0) (v := 0) C.1 C.2.1 dX7_load_0 (by decide) ?_
  refine lv_istore_n (pc := 1) (lv' := [(1, .int 0), (0, .ref (ad c0))]) C.1 C.2.1 dX7_load_1 rfl hl (by decide) rfl (fun ls hl => ?_)
  refine lv_iconst (pc := 2) (v := 0) C.1 C.2.1 dX7_load_2 (by decide) ?_
  refine lv_istore_n (pc := 3) (lv' := [(2, .int 0), (1, .int 0), (0, .ref (ad c0))]) C.1 C.2.1 dX7_load_3 rfl hl (by decide) rfl (fun ls hl => ?_)
  refine w_X7_load_l4 C hI hr hlk hR FU c0 0 0 v _ _ _ kc0 h hP hS (lv_sub hl [2, 1, 0] rfl)
set_option maxRecDepth 100000 in
theorem m_X7_load (hI : wI LC ad) {c0 : Nat} {v : VV} {rZ : Int32} {vZ : VV} (kc0 : wk LC c0 7) (h : F_X7_load c0 v = some (rZ, vZ)) : Met l yX7_load (Cond.code yX7_load cX7_load 3 (some .int) :: wsG) (rmL 1) (pcG LC cy ad D [.ref (ad c0)] v) (qiG LC cy ad D rZ vZ) 0 0 (wA LC ad) := by
  refine Met.ofW (cc := cX7_load) (maxL := 3) (ret := (some .int)) (by decide) rfl ?_
  intro p e s m args below meth c s₁ B hml hv
  obtain ⟨rfl, hP, hK⟩ := hv
  have hts := atoms_spec (ws := Cond.code yX7_load cX7_load 3 (some .int) :: wsG) B.pre
  have hown : s.vm.findClass RX7 = some m.cls := findClass_of_methodNamed B.named
  have C : Cx p s m _ c cX7_load 3 RX7 D cy := ⟨B.exec, B.bytes, hml, hown, fun w hw => hts w (List.mem_cons_of_mem _ hw), hK⟩
  have hl := lv_entry ([.ref (ad c0)]) (n := 3) (Nat.le_of_ble_eq_true rfl)
  rw [lg_entry_eq]
  generalize (lg_sl ([.ref (ad c0)]) ++ List.replicate (3 - (lg_sl ([.ref (ad c0)])).length) Slot.unset).toArray = ls at hl ⊢
  have hl : lv_has ls 3 [(0, .ref (ad c0))] := hl
  exact w_X7_load C hI B.returns B.notSynchronized (RoL_rm _) c0 v _ _ _ kc0 h hP va_S.rf (lv_sub hl [0] rfl)
def f_X5_gainOfUnit_l32 : Nat → Nat → Int32 → Int32 → Int32 → Int32 → Int32 → VV → Option (Int32 × VV)
  | 0, _, _, _, _, _, _, _ => none
  | n + 1, c0, i1, i2, i3, i4, i5, v =>
    if (3 ≤ i5) then
      some (i4, v)
    else
      bi (F_X9_shelf (rfC c0 0) i1 i5 v) fun q13 v12 =>
      bi (F_X6_number q13 5 v12) fun x17 v16 =>
      bi (F_X9_shelf (rfC c0 0) i2 i5 v16) fun q21 v20 =>
      bi (F_X6_number q21 5 v20) fun x25 v24 =>
      nv ((if i4 < ((x25 - x17) - i3) then ((x25 - x17) - i3) else i4)) fun x26 =>
      nv (i5 + 1) fun x27 =>
      f_X5_gainOfUnit_l32 n c0 i1 i2 i3 x26 x27 v24
def f_X5_gainOfUnit (c0 : Nat) (i1 : Int32) (i2 : Int32) (v : VV) : Option (Int32 × VV) :=
  gd (inB i1 (lnC (rfC (rfC c0 0) 0)) = true) <|
  gd (inB i2 (lnC (rfC (rfC c0 0) 0)) = true) <|
  nv (((v (rfC (rfC (rfC c0 0) 0) (Int32.toNatClampNeg i1)) 1) + (v (rfC (rfC (rfC c0 0) 0) (Int32.toNatClampNeg i2)) 1))) fun x9 =>
  f_X5_gainOfUnit_l32 FU c0 i1 i2 x9 0 0 v
abbrev F_X5_gainOfUnit (c0 : Nat) (i1 : Int32) (i2 : Int32) (v : VV) : Option (Int32 × VV) := f_X5_gainOfUnit c0 i1 i2 v
set_option maxHeartbeats 4000000 in
set_option maxRecDepth 100000 in
theorem w_X5_gainOfUnit_l32 (C : Cx p s m args c cX5_gainOfUnit 8 RX5 D cy) (hI : wI LC ad) (hr : meth.sig.returnType = some .int) (hlk : meth.locks = false) (hR : RoL 3 R) {rZ : Int32} {vZ : VV} : ∀ (n : Nat) (c0 : Nat) (i1 : Int32) (i2 : Int32) (i3 : Int32) (i4 : Int32) (i5 : Int32) (v : VV) (H : Heap) (locs : List Loc) (ls : Array Slot), wk LC c0 5 → f_X5_gainOfUnit_l32 n c0 i1 i2 i3 i4 i5 v = some (rZ, vZ) → va_P D vwCl (wd LC cy ad v) H → va_S (wA LC ad) s.heap H locs → lv_has ls 8 [(0, .ref (ad c0)), (1, .int i1), (2, .int i2), (3, .int i3), (4, .int i4), (5, .int i5)] → W p l e R s m args below meth c H locs 0 0 (MQ below (qiG LC cy ad D rZ vZ) args s 0 0 (wA LC ad)) (F0 m 32 ls []) := by
  intro n
  induction n with
  | zero => intro c0 i1 i2 i3 i4 i5 v H locs ls kc0 h hP hS hl; exact absurd h (by simp [f_X5_gainOfUnit_l32])
  | succ n ih =>
    intro c0 i1 i2 i3 i4 i5 v H locs ls kc0 h hP hS hl
    rw [f_X5_gainOfUnit_l32] at h
    refine lv_iload (pc := 32) C.1 C.2.1 dX5_gainOfUnit_32 (lv_at hl 5 rfl) ?_
    refine lv_iconst (pc := 34) (v := 3) C.1 C.2.1 dX5_gainOfUnit_34 (by decide) ?_
    refine lv_icmp_ge (pc := 35) (tgt := 90) C.1 C.2.1 dX5_gainOfUnit_35 (by decide) (fun b35 => ?_) (fun b35 => ?_)
    · replace h := if_t h b35
      refine lv_iload (pc := 90) C.1 C.2.1 dX5_gainOfUnit_90 (lv_at hl 4 rfl) ?_
      exact x_iret (pc := 92) C hr hlk hP hS h dX5_gainOfUnit_92
    · replace h := if_f h b35
      refine lv_aload_n (pc := 38) C.1 C.2.1 dX5_gainOfUnit_38 rfl (lv_at hl 0 rfl) ?_
      refine x_getr (pc := 39) C hP ck_5 0 fl_X5_23 (by decide) rfl kc0 dX5_gainOfUnit_39 ?_
      have k10 : wk LC (rfC c0 0) 9 := wt_f wT_C kc0 0 (by decide) rfl rfl
      refine lv_iload_n (pc := 42) C.1 C.2.1 dX5_gainOfUnit_42 rfl (lv_at hl 1 rfl) ?_
      refine lv_iload (pc := 43) C.1 C.2.1 dX5_gainOfUnit_43 (lv_at hl 5 rfl) ?_
      obtain ⟨q13, v12, hc11, h⟩ := bi_e h
      refine x_callr (pc := 45) C hP hS mi_X9_shelf ck_9 k10 ml_X5_63 (hR.le (by decide)) (Nat.zero_le _) (Nat.zero_le _) [.int i1, .int i5] rfl hl.1 rfl (Nat.le_of_ble_eq_true rfl) dX5_gainOfUnit_45 (m_X9_shelf hI k10 hc11) (fun H locs hP hS => ?_)
      have k14 : wk LC q13 6 := wr_X9_shelf hc11 k10
      refine lv_iconst (pc := 48) (v := 5) C.1 C.2.1 dX5_gainOfUnit_48 (by decide) ?_
      obtain ⟨x17, v16, hc15, h⟩ := bi_e h
      refine x_calli (pc := 49) C hP hS mi_X6_number ck_6 k14 ml_X5_67 (hR.le (by decide)) (Nat.zero_le _) (Nat.zero_le _) [.int 5] rfl hl.1 rfl (Nat.le_of_ble_eq_true rfl) dX5_gainOfUnit_49 (m_X6_number hI k14 hc15) (fun H locs hP hS => ?_)
      refine lv_istore (pc := 52) (lv' := [(6, .int x17), (0, .ref (ad c0)), (1, .int i1), (2, .int i2), (3, .int i3), (4, .int i4), (5, .int i5)]) C.1 C.2.1 dX5_gainOfUnit_52 hl (by decide) rfl (fun ls hl => ?_)
      refine lv_aload_n (pc := 54) C.1 C.2.1 dX5_gainOfUnit_54 rfl (lv_at hl 1 rfl) ?_
      refine x_getr (pc := 55) C hP ck_5 0 fl_X5_23 (by decide) rfl kc0 dX5_gainOfUnit_55 ?_
      have k18 : wk LC (rfC c0 0) 9 := wt_f wT_C kc0 0 (by decide) rfl rfl
      refine lv_iload_n (pc := 58) C.1 C.2.1 dX5_gainOfUnit_58 rfl (lv_at hl 3 rfl) ?_
      refine lv_iload (pc := 59) C.1 C.2.1 dX5_gainOfUnit_59 (lv_at hl 6 rfl) ?_
      obtain ⟨q21, v20, hc19, h⟩ := bi_e h
      refine x_callr (pc := 61) C hP hS mi_X9_shelf ck_9 k18 ml_X5_63 (hR.le (by decide)) (Nat.zero_le _) (Nat.zero_le _) [.int i2, .int i5] rfl hl.1 rfl (Nat.le_of_ble_eq_true rfl) dX5_gainOfUnit_61 (m_X9_shelf hI k18 hc19) (fun H locs hP hS => ?_)
      have k22 : wk LC q21 6 := wr_X9_shelf hc19 k18
      refine lv_iconst (pc := 64) (v := 5) C.1 C.2.1 dX5_gainOfUnit_64 (by decide) ?_
      obtain ⟨x25, v24, hc23, h⟩ := bi_e h
      refine x_calli (pc := 65) C hP hS mi_X6_number ck_6 k22 ml_X5_67 (hR.le (by decide)) (Nat.zero_le _) (Nat.zero_le _) [.int 5] rfl hl.1 rfl (Nat.le_of_ble_eq_true rfl) dX5_gainOfUnit_65 (m_X6_number hI k22 hc23) (fun H locs hP hS => ?_)
      refine lv_istore (pc := 68) (lv' := [(7, .int x25), (6, .int x17), (0, .ref (ad c0)), (1, .int i1), (2, .int i2), (3, .int i3), (4, .int i4), (5, .int i5)]) C.1 C.2.1 dX5_gainOfUnit_68 hl (by decide) rfl (fun ls hl => ?_)
      refine lv_iload (pc := 70) C.1 C.2.1 dX5_gainOfUnit_70 (lv_at hl 6 rfl) ?_
      refine lv_iload (pc := 72) C.1 C.2.1 dX5_gainOfUnit_72 (lv_at hl 0 rfl) ?_
      refine lv_iload (pc := 74) C.1 C.2.1 dX5_gainOfUnit_74 (lv_at hl 1 rfl) ?_
      refine lv_isub (pc := 76) C.1 C.2.1 dX5_gainOfUnit_76 ?_
      refine lv_iload_n (pc := 77) C.1 C.2.1 dX5_gainOfUnit_77 rfl (lv_at hl 5 rfl) ?_
      refine lv_isub (pc := 78) C.1 C.2.1 dX5_gainOfUnit_78 ?_
      refine x_max (pc := 79) C ml_X5_73 (hR.le (by decide)) (Nat.zero_le _) (Nat.zero_le _) hl.1 (Nat.le_of_ble_eq_true rfl) dX5_gainOfUnit_79 ?_
      refine lv_topi (fun x26 ex26 => ?_)
      replace h := nv_e h ex26
      clear ex26
      refine lv_istore (pc := 82) (lv' := [(4, .int x26), (7, .int x25), (6, .int x17), (0, .ref (ad c0)), (1, .int i1), (2, .int i2), (3, .int i3), (5, .int i5)]) C.1 C.2.1 dX5_gainOfUnit_82 hl (by decide) rfl (fun ls hl => ?_)
      obtain ⟨x27, ex27⟩ : ∃ y : Int32, y = i5 + 1 := ⟨_, rfl⟩
      replace h := nv_e h ex27
      refine lv_iinc (pc := 84) (v := x27) (lv' := [(5, .int x27), (4, .int x26), (7, .int x25), (6, .int x17), (0, .ref (ad c0)), (1, .int i1), (2, .int i2), (3, .int i3)]) C.1 C.2.1 dX5_gainOfUnit_84 hl (k := 7) rfl (by rw [ex27]; rfl) (by decide) rfl (fun ls hl => ?_)
      clear ex27
      refine lv_goto (pc := 87) (tgt := 32) C.1 C.2.1 dX5_gainOfUnit_87 (by decide) ?_
      exact ih c0 i1 i2 i3 x26 x27 v24 _ _ _ kc0 h hP hS (lv_sub hl [4, 5, 6, 7, 1, 0] rfl)
set_option maxHeartbeats 4000000 in
set_option maxRecDepth 100000 in
theorem w_X5_gainOfUnit (C : Cx p s m args c cX5_gainOfUnit 8 RX5 D cy) (hI : wI LC ad) (hr : meth.sig.returnType = some .int) (hlk : meth.locks = false) (hR : RoL 3 R) {rZ : Int32} {vZ : VV} : ∀ (c0 : Nat) (i1 : Int32) (i2 : Int32) (v : VV) (H : Heap) (locs : List Loc) (ls : Array Slot), wk LC c0 5 → f_X5_gainOfUnit c0 i1 i2 v = some (rZ, vZ) → va_P D vwCl (wd LC cy ad v) H → va_S (wA LC ad) s.heap H locs → lv_has ls 8 [(0, .ref (ad c0)), (1, .int i1), (2, .int i2)] → W p l e R s m args below meth c H locs 0 0 (MQ below (qiG LC cy ad D rZ vZ) args s 0 0 (wA LC ad)) (F0 m 0 ls []) := by
  intro c0 i1 i2 v H locs ls kc0 h hP hS hl
  unfold f_X5_gainOfUnit at h
  refine lv_aload_n (pc := 0) C.1 C.2.1 dX5_gainOfUnit_0 rfl (lv_at hl 0 rfl) ?_
  refine x_getr (pc := 1) C hP ck_5 0 fl_X5_23 (by decide) rfl kc0 dX5_gainOfUnit_1 ?_
  have k1 : wk LC (rfC c0 0) 9 := wt_f wT_C kc0 0 (by decide) rfl rfl
  refine x_getr (pc := 4) C hP ck_9 0 fl_X5_54 (by decide) rfl k1 dX5_gainOfUnit_4 ?_
  have k2 : wk LC (rfC (rfC c0 0) 0) 14 := wt_f wT_C k1 0 (by decide) rfl rfl
  refine lv_iload_n (pc := 7) C.1 C.2.1 dX5_gainOfUnit_7 rfl (lv_at hl 1 rfl) ?_
  obtain ⟨g3, h⟩ := gd_e h
  refine x_aald (pc := 8) C hP k2 (by decide) (by decide) (inB_vp g3) dX5_gainOfUnit_8 ?_
  have k4 : wk LC (rfC (rfC (rfC c0 0) 0) (Int32.toNatClampNeg i1)) 4 := wt_a wT_C k2 (by decide) (inB_vp g3) rfl
  refine x_geti (pc := 9) C hP ck_4 1 fl_X5_58 (by decide) rfl k4 dX5_gainOfUnit_9 ?_
  refine lv_aload_n (pc := 12) C.1 C.2.1 dX5_gainOfUnit_12 rfl (lv_at hl 0 rfl) ?_
  refine x_getr (pc := 13) C hP ck_5 0 fl_X5_23 (by decide) rfl kc0 dX5_gainOfUnit_13 ?_
  have k5 : wk LC (rfC c0 0) 9 := wt_f wT_C kc0 0 (by decide) rfl rfl
  refine x_getr (pc := 16) C hP ck_9 0 fl_X5_54 (by decide) rfl k5 dX5_gainOfUnit_16 ?_
  have k6 : wk LC (rfC (rfC c0 0) 0) 14 := wt_f wT_C k5 0 (by decide) rfl rfl
  refine lv_iload_n (pc := 19) C.1 C.2.1 dX5_gainOfUnit_19 rfl (lv_at hl 2 rfl) ?_
  obtain ⟨g7, h⟩ := gd_e h
  refine x_aald (pc := 20) C hP k6 (by decide) (by decide) (inB_vp g7) dX5_gainOfUnit_20 ?_
  have k8 : wk LC (rfC (rfC (rfC c0 0) 0) (Int32.toNatClampNeg i2)) 4 := wt_a wT_C k6 (by decide) (inB_vp g7) rfl
  refine x_geti (pc := 21) C hP ck_4 1 fl_X5_58 (by decide) rfl k8 dX5_gainOfUnit_21 ?_
  refine lv_iadd (pc := 24) C.1 C.2.1 dX5_gainOfUnit_24 ?_
  refine lv_topi (fun x9 ex9 => ?_)
  replace h := nv_e h ex9
  clear ex9
  refine lv_istore_n (pc := 25) (lv' := [(3, .int x9), (0, .ref (ad c0)), (1, .int i1), (2, .int i2)]) C.1 C.2.1 dX5_gainOfUnit_25 rfl hl (by decide) rfl (fun ls hl => ?_)
  refine lv_iconst (pc := 26) (v := 0) C.1 C.2.1 dX5_gainOfUnit_26 (by decide) ?_
  refine lv_istore (pc := 27) (lv' := [(4, .int 0), (3, .int x9), (0, .ref (ad c0)), (1, .int i1), (2, .int i2)]) C.1 C.2.1 dX5_gainOfUnit_27 hl (by decide) rfl (fun ls hl => ?_)
  refine lv_iconst (pc := 29) (v := 0) C.1 C.2.1 dX5_gainOfUnit_29 (by decide) ?_
  refine lv_istore (pc := 30) (lv' := [(5, .int 0), (4, .int 0), (3, .int x9), (0, .ref (ad c0)), (1, .int i1), (2, .int i2)]) C.1 C.2.1 dX5_gainOfUnit_30 hl (by decide) rfl (fun ls hl => ?_)
  refine w_X5_gainOfUnit_l32 C hI hr hlk hR FU c0 i1 i2 x9 0 0 v _ _ _ kc0 h hP hS (lv_sub hl [3, 4, 5, 2, 1, 0] rfl)
set_option maxRecDepth 100000 in
theorem m_X5_gainOfUnit (hI : wI LC ad) {c0 : Nat} {i1 : Int32} {i2 : Int32} {v : VV} {rZ : Int32} {vZ : VV} (kc0 : wk LC c0 5) (h : F_X5_gainOfUnit c0 i1 i2 v = some (rZ, vZ)) : Met l yX5_gainOfUnit (Cond.code yX5_gainOfUnit cX5_gainOfUnit 8 (some .int) :: wsG) (rmL 3) (pcG LC cy ad D [.ref (ad c0), .int i1, .int i2] v) (qiG LC cy ad D rZ vZ) 0 0 (wA LC ad) := by
  refine Met.ofW (cc := cX5_gainOfUnit) (maxL := 8) (ret := (some .int)) (by decide) rfl ?_
  intro p e s m args below meth c s₁ B hml hv
  obtain ⟨rfl, hP, hK⟩ := hv
  have hts := atoms_spec (ws := Cond.code yX5_gainOfUnit cX5_gainOfUnit 8 (some .int) :: wsG) B.pre
  have hown : s.vm.findClass RX5 = some m.cls := findClass_of_methodNamed B.named
  have C : Cx p s m _ c cX5_gainOfUnit 8 RX5 D cy := ⟨B.exec, B.bytes, hml, hown, fun w hw => hts w (List.mem_cons_of_mem _ hw), hK⟩
  have hl := lv_entry ([.ref (ad c0), .int i1, .int i2]) (n := 8) (Nat.le_of_ble_eq_true rfl)
  rw [lg_entry_eq]
  generalize (lg_sl ([.ref (ad c0), .int i1, .int i2]) ++ List.replicate (8 - (lg_sl ([.ref (ad c0), .int i1, .int i2])).length) Slot.unset).toArray = ls at hl ⊢
  have hl : lv_has ls 8 [(0, .ref (ad c0)), (1, .int i1), (2, .int i2)] := hl
  exact w_X5_gainOfUnit C hI B.returns B.notSynchronized (RoL_rm _) c0 i1 i2 v _ _ _ kc0 h hP va_S.rf (lv_sub hl [0, 1, 2] rfl)
def f_X5_fillLegGains_l15 (k68 : Nat → Int32 → Int32 → VV → Option (VV)) : Nat → Nat → Int32 → Int32 → Int32 → VV → Option (VV)
  | 0, _, _, _, _, _ => none
  | n + 1, c0, i1, i2, i3, v =>
    if ((v (rfC c0 0) 3) ≤ i3) then
      k68 c0 i1 i2 v
    else
      gd (inB i2 (lnC (rfC c0 1)) = true) <|
      bi (F_X5_gainOfUnit c0 i2 i3 v) fun x8 v7 =>
      gd (inB i2 (lnC (rfC (rfC c0 0) 1)) = true) <|
      gd (inB i3 (lnC (rfC (rfC (rfC c0 0) 1) (Int32.toNatClampNeg i2))) = true) <|
      gd (inB i3 (lnC (rfC (rfC c0 1) (Int32.toNatClampNeg i2))) = true) <|
      nv (wu v7 (rfC (rfC c0 1) (Int32.toNatClampNeg i2)) (Int32.toNatClampNeg i3) ((i1 * x8) - ((v7 (rfC c0 0) 5) * (v7 (rfC (rfC (rfC c0 0) 1) (Int32.toNatClampNeg i2)) (Int32.toNatClampNeg i3))))) fun v16 =>
      nv (i3 + 1) fun x17 =>
      f_X5_fillLegGains_l15 k68 n c0 i1 i2 x17 v16
def f_X5_fillLegGains_l2 : Nat → Nat → Int32 → Int32 → VV → Option (VV)
  | 0, _, _, _, _ => none
  | n + 1, c0, i1, i2, v =>
    if ((v (rfC c0 0) 3) ≤ i2) then
      some v
    else
      f_X5_fillLegGains_l15 (fun c0_18 i1_18 i2_18 v_18 =>
      nv (i2_18 + 1) fun x19 =>
      f_X5_fillLegGains_l2 n c0_18 i1_18 x19 v_18) FU c0 i1 i2 0 v
def f_X5_fillLegGains (c0 : Nat) (i1 : Int32) (v : VV) : Option (VV) :=
  f_X5_fillLegGains_l2 FU c0 i1 0 v
abbrev F_X5_fillLegGains (c0 : Nat) (i1 : Int32) (v : VV) : Option (VV) := f_X5_fillLegGains c0 i1 v
set_option maxHeartbeats 4000000 in
set_option maxRecDepth 100000 in
theorem w_X5_fillLegGains_l15 (C : Cx p s m args c cX5_fillLegGains 4 RX5 D cy) (hI : wI LC ad) (hr : meth.sig.returnType = none) (hlk : meth.locks = false) (hR : RoL 4 R) (k68 : Nat → Int32 → Int32 → VV → Option (VV)) {vZ : VV} (h68 : ∀ (c0 : Nat) (i1 : Int32) (i2 : Int32) (v : VV) (H : Heap) (locs : List Loc) (ls : Array Slot), wk LC c0 5 → k68 c0 i1 i2 v = some vZ → va_P D vwCl (wd LC cy ad v) H → va_S (wA LC ad) s.heap H locs → lv_has ls 4 [(0, .ref (ad c0)), (1, .int i1), (2, .int i2)] → W p l e R s m args below meth c H locs 0 0 (MQ below (qvG LC cy ad D vZ) args s 0 0 (wA LC ad)) (F0 m 68 ls [])) : ∀ (n : Nat) (c0 : Nat) (i1 : Int32) (i2 : Int32) (i3 : Int32) (v : VV) (H : Heap) (locs : List Loc) (ls : Array Slot), wk LC c0 5 → f_X5_fillLegGains_l15 k68 n c0 i1 i2 i3 v = some vZ → va_P D vwCl (wd LC cy ad v) H → va_S (wA LC ad) s.heap H locs → lv_has ls 4 [(0, .ref (ad c0)), (1, .int i1), (2, .int i2), (3, .int i3)] → W p l e R s m args below meth c H locs 0 0 (MQ below (qvG LC cy ad D vZ) args s 0 0 (wA LC ad)) (F0 m 15 ls []) := by
  intro n
  induction n with
  | zero => intro c0 i1 i2 i3 v H locs ls kc0 h hP hS hl; exact absurd h (by simp [f_X5_fillLegGains_l15])
  | succ n ih =>
    intro c0 i1 i2 i3 v H locs ls kc0 h hP hS hl
    rw [f_X5_fillLegGains_l15] at h
    refine lv_iload_n (pc := 15) C.1 C.2.1 dX5_fillLegGains_15 rfl (lv_at hl 3 rfl) ?_
    refine lv_aload_n (pc := 16) C.1 C.2.1 dX5_fillLegGains_16 rfl (lv_at hl 0 rfl) ?_
    refine x_getr (pc := 17) C hP ck_5 0 fl_X5_23 (by decide) rfl kc0 dX5_fillLegGains_17 ?_
    have k2 : wk LC (rfC c0 0) 9 := wt_f wT_C kc0 0 (by decide) rfl rfl
    refine x_geti (pc := 20) C hP ck_9 3 fl_X5_35 (by decide) rfl k2 dX5_fillLegGains_20 ?_
    refine lv_icmp_ge (pc := 23) (tgt := 68) C.1 C.2.1 dX5_fillLegGains_23 (by decide) (fun b23 => ?_) (fun b23 => ?_)
    · replace h := if_t h b23
      exact h68 c0 i1 i2 v _ _ _ kc0 h hP hS (lv_sub hl [0, 1, 2] rfl)
    · replace h := if_f h b23
      refine lv_aload_n (pc := 26) C.1 C.2.1 dX5_fillLegGains_26 rfl (lv_at hl 0 rfl) ?_
      refine x_getr (pc := 27) C hP ck_5 1 fl_X5_11 (by decide) rfl kc0 dX5_fillLegGains_27 ?_
      have k3 : wk LC (rfC c0 1) 18 := wt_f wT_C kc0 1 (by decide) rfl rfl
      refine lv_iload_n (pc := 30) C.1 C.2.1 dX5_fillLegGains_30 rfl (lv_at hl 2 rfl) ?_
      obtain ⟨g4, h⟩ := gd_e h
      refine x_aald (pc := 31) C hP k3 (by decide) (by decide) (inB_vp g4) dX5_fillLegGains_31 ?_
      have k5 : wk LC (rfC (rfC c0 1) (Int32.toNatClampNeg i2)) 12 := wt_a wT_C k3 (by decide) (inB_vp g4) rfl
      refine lv_iload_n (pc := 32) C.1 C.2.1 dX5_fillLegGains_32 rfl (lv_at hl 3 rfl) ?_
      refine lv_iload_n (pc := 33) C.1 C.2.1 dX5_fillLegGains_33 rfl (lv_at hl 1 rfl) ?_
      refine lv_aload_n (pc := 34) C.1 C.2.1 dX5_fillLegGains_34 rfl (lv_at hl 0 rfl) ?_
      refine lv_iload_n (pc := 35) C.1 C.2.1 dX5_fillLegGains_35 rfl (lv_at hl 2 rfl) ?_
      refine lv_iload_n (pc := 36) C.1 C.2.1 dX5_fillLegGains_36 rfl (lv_at hl 3 rfl) ?_
      obtain ⟨x8, v7, hc6, h⟩ := bi_e h
      refine x_calli (pc := 37) C hP hS mi_X5_gainOfUnit ck_5 kc0 ml_X5_44 (hR.le (by decide)) (Nat.zero_le _) (Nat.zero_le _) [.int i2, .int i3] rfl hl.1 rfl (Nat.le_of_ble_eq_true rfl) dX5_fillLegGains_37 (m_X5_gainOfUnit hI kc0 hc6) (fun H locs hP hS => ?_)
      refine lv_imul (pc := 40) C.1 C.2.1 dX5_fillLegGains_40 ?_
      refine lv_aload_n (pc := 41) C.1 C.2.1 dX5_fillLegGains_41 rfl (lv_at hl 0 rfl) ?_
      refine x_getr (pc := 42) C hP ck_5 0 fl_X5_23 (by decide) rfl kc0 dX5_fillLegGains_42 ?_
      have k9 : wk LC (rfC c0 0) 9 := wt_f wT_C kc0 0 (by decide) rfl rfl
      refine x_geti (pc := 45) C hP ck_9 5 fl_X5_48 (by decide) rfl k9 dX5_fillLegGains_45 ?_
      refine lv_aload_n (pc := 48) C.1 C.2.1 dX5_fillLegGains_48 rfl (lv_at hl 0 rfl) ?_
      refine x_getr (pc := 49) C hP ck_5 0 fl_X5_23 (by decide) rfl kc0 dX5_fillLegGains_49 ?_
      have k10 : wk LC (rfC c0 0) 9 := wt_f wT_C kc0 0 (by decide) rfl rfl
      refine x_getr (pc := 52) C hP ck_9 1 fl_X5_51 (by decide) rfl k10 dX5_fillLegGains_52 ?_
      have k11 : wk LC (rfC (rfC c0 0) 1) 18 := wt_f wT_C k10 1 (by decide) rfl rfl
      refine lv_iload_n (pc := 55) C.1 C.2.1 dX5_fillLegGains_55 rfl (lv_at hl 2 rfl) ?_
      obtain ⟨g12, h⟩ := gd_e h
      refine x_aald (pc := 56) C hP k11 (by decide) (by decide) (inB_vp g12) dX5_fillLegGains_56 ?_
      have k13 : wk LC (rfC (rfC (rfC c0 0) 1) (Int32.toNatClampNeg i2)) 12 := wt_a wT_C k11 (by decide) (inB_vp g12) rfl
      refine lv_iload_n (pc := 57) C.1 C.2.1 dX5_fillLegGains_57 rfl (lv_at hl 3 rfl) ?_
      obtain ⟨g14, h⟩ := gd_e h
      refine x_iald (pc := 58) C hP k13 (inB_vp g14) dX5_fillLegGains_58 ?_
      refine lv_imul (pc := 59) C.1 C.2.1 dX5_fillLegGains_59 ?_
      refine lv_isub (pc := 60) C.1 C.2.1 dX5_fillLegGains_60 ?_
      obtain ⟨g15, h⟩ := gd_e h
      refine x_iast (pc := 61) C hI hP hS k5 (inB_vp g15) dX5_fillLegGains_61 (fun H locs hP hS => ?_)
      obtain ⟨v16, h, hP⟩ := nv_p (P := fun z => va_P D vwCl (wd LC cy ad z) H) h hP
      obtain ⟨x17, ex17⟩ : ∃ y : Int32, y = i3 + 1 := ⟨_, rfl⟩
      replace h := nv_e h ex17
      refine lv_iinc (pc := 62) (v := x17) (lv' := [(3, .int x17), (0, .ref (ad c0)), (1, .int i1), (2, .int i2)]) C.1 C.2.1 dX5_fillLegGains_62 hl (k := 3) rfl (by rw [ex17]; rfl) (by decide) rfl (fun ls hl => ?_)
      clear ex17
      refine lv_goto (pc := 65) (tgt := 15) C.1 C.2.1 dX5_fillLegGains_65 (by decide) ?_
      exact ih c0 i1 i2 x17 v16 _ _ _ kc0 h hP hS (lv_sub hl [1, 2, 3, 0] rfl)
set_option maxHeartbeats 4000000 in
set_option maxRecDepth 100000 in
theorem w_X5_fillLegGains_l2 (C : Cx p s m args c cX5_fillLegGains 4 RX5 D cy) (hI : wI LC ad) (hr : meth.sig.returnType = none) (hlk : meth.locks = false) (hR : RoL 4 R) {vZ : VV} : ∀ (n : Nat) (c0 : Nat) (i1 : Int32) (i2 : Int32) (v : VV) (H : Heap) (locs : List Loc) (ls : Array Slot), wk LC c0 5 → f_X5_fillLegGains_l2 n c0 i1 i2 v = some vZ → va_P D vwCl (wd LC cy ad v) H → va_S (wA LC ad) s.heap H locs → lv_has ls 4 [(0, .ref (ad c0)), (1, .int i1), (2, .int i2)] → W p l e R s m args below meth c H locs 0 0 (MQ below (qvG LC cy ad D vZ) args s 0 0 (wA LC ad)) (F0 m 2 ls []) := by
  intro n
  induction n with
  | zero => intro c0 i1 i2 v H locs ls kc0 h hP hS hl; exact absurd h (by simp [f_X5_fillLegGains_l2])
  | succ n ih =>
    intro c0 i1 i2 v H locs ls kc0 h hP hS hl
    rw [f_X5_fillLegGains_l2] at h
    refine lv_iload_n (pc := 2) C.1 C.2.1 dX5_fillLegGains_2 rfl (lv_at hl 2 rfl) ?_
    refine lv_aload_n (pc := 3) C.1 C.2.1 dX5_fillLegGains_3 rfl (lv_at hl 0 rfl) ?_
    refine x_getr (pc := 4) C hP ck_5 0 fl_X5_23 (by decide) rfl kc0 dX5_fillLegGains_4 ?_
    have k1 : wk LC (rfC c0 0) 9 := wt_f wT_C kc0 0 (by decide) rfl rfl
    refine x_geti (pc := 7) C hP ck_9 3 fl_X5_35 (by decide) rfl k1 dX5_fillLegGains_7 ?_
    refine lv_icmp_ge (pc := 10) (tgt := 74) C.1 C.2.1 dX5_fillLegGains_10 (by decide) (fun b10 => ?_) (fun b10 => ?_)
    · replace h := if_t h b10
      exact x_vret (pc := 74) C hr hlk hP hS h dX5_fillLegGains_74
    · replace h := if_f h b10
      refine lv_iconst (pc := 13) (v := 0) C.1 C.2.1 dX5_fillLegGains_13 (by decide) ?_
      refine lv_istore_n (pc := 14) (lv' := [(3, .int 0), (0, .ref (ad c0)), (1, .int i1), (2, .int i2)]) C.1 C.2.1 dX5_fillLegGains_14 rfl hl (by decide) rfl (fun ls hl => ?_)
      refine w_X5_fillLegGains_l15 C hI hr hlk hR _ ?_ FU c0 i1 i2 0 v _ _ _ kc0 h hP hS (lv_sub hl [1, 2, 3, 0] rfl)
      intro c0_18 i1_18 i2_18 v_18 H locs ls kc0_18 h hP hS hl
      obtain ⟨x19, ex19⟩ : ∃ y : Int32, y = i2_18 + 1 := ⟨_, rfl⟩
      replace h := nv_e h ex19
      refine lv_iinc (pc := 68) (v := x19) (lv' := [(2, .int x19), (0, .ref (ad c0_18)), (1, .int i1_18)]) C.1 C.2.1 dX5_fillLegGains_68 hl (k := 2) rfl (by rw [ex19]; rfl) (by decide) rfl (fun ls hl => ?_)
      clear ex19
      refine lv_goto (pc := 71) (tgt := 2) C.1 C.2.1 dX5_fillLegGains_71 (by decide) ?_
      exact ih c0_18 i1_18 x19 v_18 _ _ _ kc0_18 h hP hS (lv_sub hl [1, 2, 0] rfl)
set_option maxHeartbeats 4000000 in
set_option maxRecDepth 100000 in
theorem w_X5_fillLegGains (C : Cx p s m args c cX5_fillLegGains 4 RX5 D cy) (hI : wI LC ad) (hr : meth.sig.returnType = none) (hlk : meth.locks = false) (hR : RoL 4 R) {vZ : VV} : ∀ (c0 : Nat) (i1 : Int32) (v : VV) (H : Heap) (locs : List Loc) (ls : Array Slot), wk LC c0 5 → f_X5_fillLegGains c0 i1 v = some vZ → va_P D vwCl (wd LC cy ad v) H → va_S (wA LC ad) s.heap H locs → lv_has ls 4 [(0, .ref (ad c0)), (1, .int i1)] → W p l e R s m args below meth c H locs 0 0 (MQ below (qvG LC cy ad D vZ) args s 0 0 (wA LC ad)) (F0 m 0 ls []) := by
  intro c0 i1 v H locs ls kc0 h hP hS hl
  unfold f_X5_fillLegGains at h
  refine lv_iconst (pc := 0) (v := 0) C.1 C.2.1 dX5_fillLegGains_0 (by decide) ?_
  refine lv_istore_n (pc := 1) (lv' := [(2, .int 0), (0, .ref (ad c0)), (1, .int i1)]) C.1 C.2.1 dX5_fillLegGains_1 rfl hl (by decide) rfl (fun ls hl => ?_)
  refine w_X5_fillLegGains_l2 C hI hr hlk hR FU c0 i1 0 v _ _ _ kc0 h hP hS (lv_sub hl [1, 2, 0] rfl)
set_option maxRecDepth 100000 in
theorem m_X5_fillLegGains (hI : wI LC ad) {c0 : Nat} {i1 : Int32} {v : VV} {vZ : VV} (kc0 : wk LC c0 5) (h : F_X5_fillLegGains c0 i1 v = some vZ) : Met l yX5_fillLegGains (Cond.code yX5_fillLegGains cX5_fillLegGains 4 none :: wsG) (rmL 4) (pcG LC cy ad D [.ref (ad c0), .int i1] v) (qvG LC cy ad D vZ) 0 0 (wA LC ad) := by
  refine Met.ofW (cc := cX5_fillLegGains) (maxL := 4) (ret := none) (by decide) rfl ?_
  intro p e s m args below meth c s₁ B hml hv
  obtain ⟨rfl, hP, hK⟩ := hv
  have hts := atoms_spec (ws := Cond.code yX5_fillLegGains cX5_fillLegGains 4 none :: wsG) B.pre
  have hown : s.vm.findClass RX5 = some m.cls := findClass_of_methodNamed B.named
  have C : Cx p s m _ c cX5_fillLegGains 4 RX5 D cy := ⟨B.exec, B.bytes, hml, hown, fun w hw => hts w (List.mem_cons_of_mem _ hw), hK⟩
  have hl := lv_entry ([.ref (ad c0), .int i1]) (n := 4) (Nat.le_of_ble_eq_true rfl)
  rw [lg_entry_eq]
  generalize (lg_sl ([.ref (ad c0), .int i1]) ++ List.replicate (4 - (lg_sl ([.ref (ad c0), .int i1])).length) Slot.unset).toArray = ls at hl ⊢
  have hl : lv_has ls 4 [(0, .ref (ad c0)), (1, .int i1)] := hl
  exact w_X5_fillLegGains C hI B.returns B.notSynchronized (RoL_rm _) c0 i1 v _ _ _ kc0 h hP va_S.rf (lv_sub hl [0, 1] rfl)
def f_X5_isOnPath_l2 : Nat → Nat → Int32 → Int32 → Int32 → VV → Option (Int32 × VV)
  | 0, _, _, _, _, _ => none
  | n + 1, c0, i1, i2, i3, v =>
    if (i2 ≤ i3) then
      some (0, v)
    else
      gd (inB i3 (lnC (rfC c0 2)) = true) <|
      if ((v (rfC c0 2) (Int32.toNatClampNeg i3)) = i1) then
        some (1, v)
      else
        nv (i3 + 1) fun x3 =>
        f_X5_isOnPath_l2 n c0 i1 i2 x3 v
def f_X5_isOnPath (c0 : Nat) (i1 : Int32) (i2 : Int32) (v : VV) : Option (Int32 × VV) :=
  f_X5_isOnPath_l2 FU c0 i1 i2 0 v
abbrev F_X5_isOnPath (c0 : Nat) (i1 : Int32) (i2 : Int32) (v : VV) : Option (Int32 × VV) := f_X5_isOnPath c0 i1 i2 v
set_option maxHeartbeats 4000000 in
set_option maxRecDepth 100000 in
theorem w_X5_isOnPath_l2 (C : Cx p s m args c cX5_isOnPath 4 RX5 D cy) (hI : wI LC ad) (hr : meth.sig.returnType = some .boolean) (hlk : meth.locks = false) (hR : RoL 1 R) {rZ : Int32} {vZ : VV} : ∀ (n : Nat) (c0 : Nat) (i1 : Int32) (i2 : Int32) (i3 : Int32) (v : VV) (H : Heap) (locs : List Loc) (ls : Array Slot), wk LC c0 5 → f_X5_isOnPath_l2 n c0 i1 i2 i3 v = some (rZ, vZ) → va_P D vwCl (wd LC cy ad v) H → va_S (wA LC ad) s.heap H locs → lv_has ls 4 [(0, .ref (ad c0)), (1, .int i1), (2, .int i2), (3, .int i3)] → W p l e R s m args below meth c H locs 0 0 (MQ below (qiG LC cy ad D rZ vZ) args s 0 0 (wA LC ad)) (F0 m 2 ls []) := by
  intro n
  induction n with
  | zero => intro c0 i1 i2 i3 v H locs ls kc0 h hP hS hl; exact absurd h (by simp [f_X5_isOnPath_l2])
  | succ n ih =>
    intro c0 i1 i2 i3 v H locs ls kc0 h hP hS hl
    rw [f_X5_isOnPath_l2] at h
    refine lv_iload_n (pc := 2) C.1 C.2.1 dX5_isOnPath_2 rfl (lv_at hl 3 rfl) ?_
    refine lv_iload_n (pc := 3) C.1 C.2.1 dX5_isOnPath_3 rfl (lv_at hl 2 rfl) ?_
    refine lv_icmp_ge (pc := 4) (tgt := 25) C.1 C.2.1 dX5_isOnPath_4 (by decide) (fun b4 => ?_) (fun b4 => ?_)
    · replace h := if_t h b4
      refine lv_iconst (pc := 25) (v := 0) C.1 C.2.1 dX5_isOnPath_25 (by decide) ?_
      exact x_zret (pc := 26) C hr hlk hP hS (by decide) h dX5_isOnPath_26
    · replace h := if_f h b4
      refine lv_aload_n (pc := 7) C.1 C.2.1 dX5_isOnPath_7 rfl (lv_at hl 0 rfl) ?_
      refine x_getr (pc := 8) C hP ck_5 2 fl_X5_16 (by decide) rfl kc0 dX5_isOnPath_8 ?_
      have k1 : wk LC (rfC c0 2) 12 := wt_f wT_C kc0 2 (by decide) rfl rfl
      refine lv_iload_n (pc := 11) C.1 C.2.1 dX5_isOnPath_11 rfl (lv_at hl 3 rfl) ?_
      obtain ⟨g2, h⟩ := gd_e h
      refine x_iald (pc := 12) C hP k1 (inB_vp g2) dX5_isOnPath_12 ?_
      refine lv_iload_n (pc := 13) C.1 C.2.1 dX5_isOnPath_13 rfl (lv_at hl 1 rfl) ?_
      refine lv_icmp_ne (pc := 14) (tgt := 19) C.1 C.2.1 dX5_isOnPath_14 (by decide) (fun b14 => ?_) (fun b14 => ?_)
      · replace h := if_f h b14
        obtain ⟨x3, ex3⟩ : ∃ y : Int32, y = i3 + 1 := ⟨_, rfl⟩
        replace h := nv_e h ex3
        refine lv_iinc (pc := 19) (v := x3) (lv' := [(3, .int x3), (0, .ref (ad c0)), (1, .int i1), (2, .int i2)]) C.1 C.2.1 dX5_isOnPath_19 hl (k := 3) rfl (by rw [ex3]; rfl) (by decide) rfl (fun ls hl => ?_)
        clear ex3
        refine lv_goto (pc := 22) (tgt := 2) C.1 C.2.1 dX5_isOnPath_22 (by decide) ?_
        exact ih c0 i1 i2 x3 v _ _ _ kc0 h hP hS (lv_sub hl [1, 2, 3, 0] rfl)
      · replace h := if_t h b14
        refine lv_iconst (pc := 17) (v := 1) C.1 C.2.1 dX5_isOnPath_17 (by decide) ?_
        exact x_zret (pc := 18) C hr hlk hP hS (by decide) h dX5_isOnPath_18
set_option maxHeartbeats 4000000 in
set_option maxRecDepth 100000 in
theorem w_X5_isOnPath (C : Cx p s m args c cX5_isOnPath 4 RX5 D cy) (hI : wI LC ad) (hr : meth.sig.returnType = some .boolean) (hlk : meth.locks = false) (hR : RoL 1 R) {rZ : Int32} {vZ : VV} : ∀ (c0 : Nat) (i1 : Int32) (i2 : Int32) (v : VV) (H : Heap) (locs : List Loc) (ls : Array Slot), wk LC c0 5 → f_X5_isOnPath c0 i1 i2 v = some (rZ, vZ) → va_P D vwCl (wd LC cy ad v) H → va_S (wA LC ad) s.heap H locs → lv_has ls 4 [(0, .ref (ad c0)), (1, .int i1), (2, .int i2)] → W p l e R s m args below meth c H locs 0 0 (MQ below (qiG LC cy ad D rZ vZ) args s 0 0 (wA LC ad)) (F0 m 0 ls []) := by
  intro c0 i1 i2 v H locs ls kc0 h hP hS hl
  unfold f_X5_isOnPath at h
  refine lv_iconst (pc := 0) (v := 0) C.1 C.2.1 dX5_isOnPath_0 (by decide) ?_
  refine lv_istore_n (pc := 1) (lv' := [(3, .int 0), (0, .ref (ad c0)), (1, .int i1), (2, .int i2)]) C.1 C.2.1 dX5_isOnPath_1 rfl hl (by decide) rfl (fun ls hl => ?_)
  refine w_X5_isOnPath_l2 C hI hr hlk hR FU c0 i1 i2 0 v _ _ _ kc0 h hP hS (lv_sub hl [1, 2, 3, 0] rfl)
set_option maxRecDepth 100000 in
theorem m_X5_isOnPath (hI : wI LC ad) {c0 : Nat} {i1 : Int32} {i2 : Int32} {v : VV} {rZ : Int32} {vZ : VV} (kc0 : wk LC c0 5) (h : F_X5_isOnPath c0 i1 i2 v = some (rZ, vZ)) : Met l yX5_isOnPath (Cond.code yX5_isOnPath cX5_isOnPath 4 (some .boolean) :: wsG) (rmL 1) (pcG LC cy ad D [.ref (ad c0), .int i1, .int i2] v) (qiG LC cy ad D rZ vZ) 0 0 (wA LC ad) := by
  refine Met.ofW (cc := cX5_isOnPath) (maxL := 4) (ret := (some .boolean)) (by decide) rfl ?_
  intro p e s m args below meth c s₁ B hml hv
  obtain ⟨rfl, hP, hK⟩ := hv
  have hts := atoms_spec (ws := Cond.code yX5_isOnPath cX5_isOnPath 4 (some .boolean) :: wsG) B.pre
  have hown : s.vm.findClass RX5 = some m.cls := findClass_of_methodNamed B.named
  have C : Cx p s m _ c cX5_isOnPath 4 RX5 D cy := ⟨B.exec, B.bytes, hml, hown, fun w hw => hts w (List.mem_cons_of_mem _ hw), hK⟩
  have hl := lv_entry ([.ref (ad c0), .int i1, .int i2]) (n := 4) (Nat.le_of_ble_eq_true rfl)
  rw [lg_entry_eq]
  generalize (lg_sl ([.ref (ad c0), .int i1, .int i2]) ++ List.replicate (4 - (lg_sl ([.ref (ad c0), .int i1, .int i2])).length) Slot.unset).toArray = ls at hl ⊢
  have hl : lv_has ls 4 [(0, .ref (ad c0)), (1, .int i1), (2, .int i2)] := hl
  exact w_X5_isOnPath C hI B.returns B.notSynchronized (RoL_rm _) c0 i1 i2 v _ _ _ kc0 h hP va_S.rf (lv_sub hl [0, 1, 2] rfl)
def f_X5_compare_b40 (c0 : Nat) (i1 : Int32) (i2 : Int32) (i3 : Int32) (v : VV) : Option (VV) :=
  nv (wu v c0 4 i1) fun v2 =>
  nv (wu v2 c0 5 i2) fun v3 =>
  nv (wu v3 c0 6 i3) fun v4 =>
  gd (¬ i1 < 0) <|
  gd (Int32.toNatClampNeg i1 ≤ lnC (rfC c0 2)) <|
  gd (Int32.toNatClampNeg i1 ≤ lnC (rfC c0 3)) <|
  nv (wcp v4 (rfC c0 2) (rfC c0 3) (Int32.toNatClampNeg i1)) fun v10 =>
  some v10
def f_X5_compare (c0 : Nat) (i1 : Int32) (i2 : Int32) (i3 : Int32) (v : VV) : Option (VV) :=
  nv (((i2 * (v c0 6)) - ((v c0 5) * i3))) fun x1 =>
  if ((v c0 4) = 0) then
    f_X5_compare_b40 c0 i1 i2 i3 v
  else
    if (0 < x1) then
      f_X5_compare_b40 c0 i1 i2 i3 v
    else
      if (x1 = 0) then
        if ((v c0 4) ≤ i1) then
          some v
        else
          f_X5_compare_b40 c0 i1 i2 i3 v
      else
        some v
abbrev F_X5_compare (c0 : Nat) (i1 : Int32) (i2 : Int32) (i3 : Int32) (v : VV) : Option (VV) := f_X5_compare c0 i1 i2 i3 v
set_option maxHeartbeats 4000000 in
set_option maxRecDepth 100000 in
theorem w_X5_compare_b40 (C : Cx p s m args c cX5_compare 5 RX5 D cy) (hI : wI LC ad) (hr : meth.sig.returnType = none) (hlk : meth.locks = false) (hR : RoL 1 R) {vZ : VV} : ∀ (c0 : Nat) (i1 : Int32) (i2 : Int32) (i3 : Int32) (v : VV) (H : Heap) (locs : List Loc) (ls : Array Slot), wk LC c0 5 → f_X5_compare_b40 c0 i1 i2 i3 v = some vZ → va_P D vwCl (wd LC cy ad v) H → va_S (wA LC ad) s.heap H locs → lv_has ls 5 [(0, .ref (ad c0)), (1, .int i1), (2, .int i2), (3, .int i3)] → W p l e R s m args below meth c H locs 0 0 (MQ below (qvG LC cy ad D vZ) args s 0 0 (wA LC ad)) (F0 m 40 ls []) := by
  intro c0 i1 i2 i3 v H locs ls kc0 h hP hS hl
  unfold f_X5_compare_b40 at h
  refine lv_aload_n (pc := 40) C.1 C.2.1 dX5_compare_40 rfl (lv_at hl 0 rfl) ?_
  refine lv_iload_n (pc := 41) C.1 C.2.1 dX5_compare_41 rfl (lv_at hl 1 rfl) ?_
  refine x_put (pc := 42) C hI hP hS ck_5 4 fl_X5_27 (by decide) rfl rfl kc0 rfl rfl dX5_compare_42 (fun H locs hP hS => ?_)
  obtain ⟨v2, h, hP⟩ := nv_p (P := fun z => va_P D vwCl (wd LC cy ad z) H) h hP
  refine lv_aload_n (pc := 45) C.1 C.2.1 dX5_compare_45 rfl (lv_at hl 0 rfl) ?_
  refine lv_iload_n (pc := 46) C.1 C.2.1 dX5_compare_46 rfl (lv_at hl 2 rfl) ?_
  refine x_put (pc := 47) C hI hP hS ck_5 5 fl_X5_91 (by decide) rfl rfl kc0 rfl rfl dX5_compare_47 (fun H locs hP hS => ?_)
  obtain ⟨v3, h, hP⟩ := nv_p (P := fun z => va_P D vwCl (wd LC cy ad z) H) h hP
  refine lv_aload_n (pc := 50) C.1 C.2.1 dX5_compare_50 rfl (lv_at hl 0 rfl) ?_
  refine lv_iload_n (pc := 51) C.1 C.2.1 dX5_compare_51 rfl (lv_at hl 3 rfl) ?_
  refine x_put (pc := 52) C hI hP hS ck_5 6 fl_X5_88 (by decide) rfl rfl kc0 rfl rfl dX5_compare_52 (fun H locs hP hS => ?_)
  obtain ⟨v4, h, hP⟩ := nv_p (P := fun z => va_P D vwCl (wd LC cy ad z) H) h hP
  refine lv_aload_n (pc := 55) C.1 C.2.1 dX5_compare_55 rfl (lv_at hl 0 rfl) ?_
  refine x_getr (pc := 56) C hP ck_5 2 fl_X5_16 (by decide) rfl kc0 dX5_compare_56 ?_
  have k5 : wk LC (rfC c0 2) 12 := wt_f wT_C kc0 2 (by decide) rfl rfl
  refine lv_iconst (pc := 59) (v := 0) C.1 C.2.1 dX5_compare_59 (by decide) ?_
  refine lv_aload_n (pc := 60) C.1 C.2.1 dX5_compare_60 rfl (lv_at hl 0 rfl) ?_
  refine x_getr (pc := 61) C hP ck_5 3 fl_X5_20 (by decide) rfl kc0 dX5_compare_61 ?_
  have k6 : wk LC (rfC c0 3) 12 := wt_f wT_C kc0 3 (by decide) rfl rfl
  refine lv_iconst (pc := 64) (v := 0) C.1 C.2.1 dX5_compare_64 (by decide) ?_
  refine lv_iload_n (pc := 65) C.1 C.2.1 dX5_compare_65 rfl (lv_at hl 1 rfl) ?_
  obtain ⟨g7, h⟩ := gd_e h
  obtain ⟨g8, h⟩ := gd_e h
  obtain ⟨g9, h⟩ := gd_e h
  refine x_copy (pc := 66) C hI hP hS ml_X5_94 k5 k6 g7 g8 g9 (hR.le (by decide)) hl.1 (Nat.le_of_ble_eq_true rfl) dX5_compare_66 (fun H locs hP hS => ?_)
  obtain ⟨v10, h, hP⟩ := nv_p (P := fun z => va_P D vwCl (wd LC cy ad z) H) h hP
  exact x_vret (pc := 69) C hr hlk hP hS h dX5_compare_69
set_option maxHeartbeats 4000000 in
set_option maxRecDepth 100000 in
theorem w_X5_compare (C : Cx p s m args c cX5_compare 5 RX5 D cy) (hI : wI LC ad) (hr : meth.sig.returnType = none) (hlk : meth.locks = false) (hR : RoL 1 R) {vZ : VV} : ∀ (c0 : Nat) (i1 : Int32) (i2 : Int32) (i3 : Int32) (v : VV) (H : Heap) (locs : List Loc) (ls : Array Slot), wk LC c0 5 → f_X5_compare c0 i1 i2 i3 v = some vZ → va_P D vwCl (wd LC cy ad v) H → va_S (wA LC ad) s.heap H locs → lv_has ls 5 [(0, .ref (ad c0)), (1, .int i1), (2, .int i2), (3, .int i3)] → W p l e R s m args below meth c H locs 0 0 (MQ below (qvG LC cy ad D vZ) args s 0 0 (wA LC ad)) (F0 m 0 ls []) := by
  intro c0 i1 i2 i3 v H locs ls kc0 h hP hS hl
  unfold f_X5_compare at h
  refine lv_iload_n (pc := 0) C.1 C.2.1 dX5_compare_0 rfl (lv_at hl 2 rfl) ?_
  refine lv_aload_n (pc := 1) C.1 C.2.1 dX5_compare_1 rfl (lv_at hl 0 rfl) ?_
  refine x_geti (pc := 2) C hP ck_5 6 fl_X5_88 (by decide) rfl kc0 dX5_compare_2 ?_
  refine lv_imul (pc := 5) C.1 C.2.1 dX5_compare_5 ?_
  refine lv_aload_n (pc := 6) C.1 C.2.1 dX5_compare_6 rfl (lv_at hl 0 rfl) ?_
  refine x_geti (pc := 7) C hP ck_5 5 fl_X5_91 (by decide) rfl kc0 dX5_compare_7 ?_
  refine lv_iload_n (pc := 10) C.1 C.2.1 dX5_compare_10 rfl (lv_at hl 3 rfl) ?_
  refine lv_imul (pc := 11) C.1 C.2.1 dX5_compare_11 ?_
  refine lv_isub (pc := 12) C.1 C.2.1 dX5_compare_12 ?_
  refine lv_topi (fun x1 ex1 => ?_)
  replace h := nv_e h ex1
  clear ex1
  refine lv_istore (pc := 13) (lv' := [(4, .int x1), (0, .ref (ad c0)), (1, .int i1), (2, .int i2), (3, .int i3)]) C.1 C.2.1 dX5_compare_13 hl (by decide) rfl (fun ls hl => ?_)
  refine lv_aload_n (pc := 15) C.1 C.2.1 dX5_compare_15 rfl (lv_at hl 1 rfl) ?_
  refine x_geti (pc := 16) C hP ck_5 4 fl_X5_27 (by decide) rfl kc0 dX5_compare_16 ?_
  refine lv_if_eq (pc := 19) (tgt := 40) C.1 C.2.1 dX5_compare_19 (by decide) (fun b19 => ?_) (fun b19 => ?_)
  · replace h := if_t h b19
    exact w_X5_compare_b40 C hI hr hlk hR c0 i1 i2 i3 v _ _ _ kc0 h hP hS (lv_sub hl [1, 2, 3, 4] rfl)
  · replace h := if_f h b19
    refine lv_iload (pc := 22) C.1 C.2.1 dX5_compare_22 (lv_at hl 0 rfl) ?_
    refine lv_if_gt (pc := 24) (tgt := 40) C.1 C.2.1 dX5_compare_24 (by decide) (fun b24 => ?_) (fun b24 => ?_)
    · replace h := if_t h b24
      exact w_X5_compare_b40 C hI hr hlk hR c0 i1 i2 i3 v _ _ _ kc0 h hP hS (lv_sub hl [1, 2, 3, 4] rfl)
    · replace h := if_f h b24
      refine lv_iload (pc := 27) C.1 C.2.1 dX5_compare_27 (lv_at hl 0 rfl) ?_
      refine lv_if_ne (pc := 29) (tgt := 69) C.1 C.2.1 dX5_compare_29 (by decide) (fun b29 => ?_) (fun b29 => ?_)
      · replace h := if_f h b29
        exact x_vret (pc := 69) C hr hlk hP hS h dX5_compare_69
      · replace h := if_t h b29
        refine lv_iload_n (pc := 32) C.1 C.2.1 dX5_compare_32 rfl (lv_at hl 2 rfl) ?_
        refine lv_aload_n (pc := 33) C.1 C.2.1 dX5_compare_33 rfl (lv_at hl 1 rfl) ?_
        refine x_geti (pc := 34) C hP ck_5 4 fl_X5_27 (by decide) rfl kc0 dX5_compare_34 ?_
        refine lv_icmp_ge (pc := 37) (tgt := 69) C.1 C.2.1 dX5_compare_37 (by decide) (fun b37 => ?_) (fun b37 => ?_)
        · replace h := if_t h b37
          exact x_vret (pc := 69) C hr hlk hP hS h dX5_compare_69
        · replace h := if_f h b37
          exact w_X5_compare_b40 C hI hr hlk hR c0 i1 i2 i3 v _ _ _ kc0 h hP hS (lv_sub hl [1, 2, 3, 4] rfl)
set_option maxRecDepth 100000 in
theorem m_X5_compare (hI : wI LC ad) {c0 : Nat} {i1 : Int32} {i2 : Int32} {i3 : Int32} {v : VV} {vZ : VV} (kc0 : wk LC c0 5) (h : F_X5_compare c0 i1 i2 i3 v = some vZ) : Met l yX5_compare (Cond.code yX5_compare cX5_compare 5 none :: wsG) (rmL 1) (pcG LC cy ad D [.ref (ad c0), .int i1, .int i2, .int i3] v) (qvG LC cy ad D vZ) 0 0 (wA LC ad) := by
  refine Met.ofW (cc := cX5_compare) (maxL := 5) (ret := none) (by decide) rfl ?_
  intro p e s m args below meth c s₁ B hml hv
  obtain ⟨rfl, hP, hK⟩ := hv
  have hts := atoms_spec (ws := Cond.code yX5_compare cX5_compare 5 none :: wsG) B.pre
  have hown : s.vm.findClass RX5 = some m.cls := findClass_of_methodNamed B.named
  have C : Cx p s m _ c cX5_compare 5 RX5 D cy := ⟨B.exec, B.bytes, hml, hown, fun w hw => hts w (List.mem_cons_of_mem _ hw), hK⟩
  have hl := lv_entry ([.ref (ad c0), .int i1, .int i2, .int i3]) (n := 5) (Nat.le_of_ble_eq_true rfl)
  rw [lg_entry_eq]
  generalize (lg_sl ([.ref (ad c0), .int i1, .int i2, .int i3]) ++ List.replicate (5 - (lg_sl ([.ref (ad c0), .int i1, .int i2, .int i3])).length) Slot.unset).toArray = ls at hl ⊢
  have hl : lv_has ls 5 [(0, .ref (ad c0)), (1, .int i1), (2, .int i2), (3, .int i3)] := hl
  exact w_X5_compare C hI B.returns B.notSynchronized (RoL_rm _) c0 i1 i2 i3 v _ _ _ kc0 h hP va_S.rf (lv_sub hl [0, 1, 2, 3] rfl)
end
