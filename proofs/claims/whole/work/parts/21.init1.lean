def tl_X6 (cy : Nat → ClassId) (h0 : Nat) (i1 : Int32) (a : List Nat → Nat) : va_W := ([] : va_W)
def cel_X6 (cy : Nat → ClassId) (h0 : Nat) (i1 : Int32) (a : List Nat → Nat) : va_W := (h0, .inr (6, [.int i1, .int 0, .int 0, .int 0, .int 10, .int 10, .int 0])) :: tl_X6 cy h0 i1 a
theorem mc_X6 : MC yX6_init cX6_init 2 1 := ⟨cd_X6_init, im_X6_init, in_X6, rfl, by decide +kernel, by decide⟩
set_option maxHeartbeats 4000000 in
set_option maxRecDepth 100000 in
theorem k_X6 (l : Launch) (D : va_G) (cy : Nat → ClassId) (h0 sz : Nat) (i1 : Int32) : Met l yX6_init (Cond.code yX6_init cX6_init 2 none :: wsG) (rmI 1 0 0) (pcI cy D [.int i1] h0 (.inr (6, [.int 0, .int 0, .int 0, .int 0, .int 0, .int 0, .int 0])) sz) (qI D (fun a => cel_X6 cy h0 i1 a) (va_A [(h0, .inr (6, [.int 0, .int 0, .int 0, .int 0, .int 0, .int 0, .int 0]))] sz)) 0 0 (va_A [(h0, .inr (6, [.int 0, .int 0, .int 0, .int 0, .int 0, .int 0, .int 0]))] sz) := by
  refine Met.ofW (cc := cX6_init) (maxL := 2) (ret := none) (by decide) rfl ?_
  intro p e s m args below meth c s₁ B hml hv
  obtain ⟨rfl, hsz, hP, hK, hN⟩ := hv
  have hts := atoms_spec (ws := Cond.code yX6_init cX6_init 2 none :: wsG) B.pre
  have hown : s.vm.findClass RX6 = some m.cls := findClass_of_methodNamed B.named
  have hin : meth.name = "<init>" := (name_of_methodNamed B.named B.method).1
  have C : Cx p s m _ c cX6_init 2 RX6 D cy := ⟨B.exec, B.bytes, hml, hown, fun w hw => hts w (List.mem_cons_of_mem _ hw), hK⟩
  have hr := B.returns
  have hlk := B.notSynchronized
  have hR : RoL 1 (headSpec (Cond.code yX6_init cX6_init 2 none :: wsG) (rmI 1 0 0)).room := RoL_rmI _ _ _
  subst hsz
  have hD := (D1 (h0, .inr (6, [.int 0, .int 0, .int 0, .int 0, .int 0, .int 0, .int 0]))).self (sz := s.heap.size)
  generalize hAe : va_A [(h0, .inr (6, [.int 0, .int 0, .int 0, .int 0, .int 0, .int 0, .int 0]))] s.heap.size = A at hD ⊢
  have hA : ∀ q : Nat, s.heap.size ≤ q → A q := fun q h => by rw [← hAe]; exact Or.inr h
  have hS : va_S A s.heap s.heap [] := va_S.rf
  have hP : va_P D vwCl ([(h0, .inr (6, [.int 0, .int 0, .int 0, .int 0, .int 0, .int 0, .int 0]))] ++ ([] : va_W)) s.heap := hP
  have hD : va_D A ([(h0, .inr (6, [.int 0, .int 0, .int 0, .int 0, .int 0, .int 0, .int 0]))] ++ ([] : va_W)) := hD
  have hl := lv_entry ([.ref h0, .int i1]) (n := 2) (Nat.le_of_ble_eq_true rfl)
  rw [lg_entry_eq]
  generalize (lg_sl ([.ref h0, .int i1]) ++ List.replicate (2 - (lg_sl ([.ref h0, .int i1])).length) Slot.unset).toArray = ls at hl ⊢
  have hl : lv_has ls 2 [(0, .ref h0), (1, .int i1)] := hl
  refine lv_aload_n (pc := 0) C.1 C.2.1 dX6_init_0 rfl (lv_at hl 0 rfl) ?_
  refine y_obj (pc := 1) C ml_X6_3 (hR.le (by decide)) hl.1 dX6_init_1 ?_
  refine lv_aload_n (pc := 4) C.1 C.2.1 dX6_init_4 rfl (lv_at hl 0 rfl) ?_
  refine lv_iload_n (pc := 5) C.1 C.2.1 dX6_init_5 rfl (lv_at hl 1 rfl) ?_
  refine y_put (pc := 6) C hin hP hD hS ck_6 0 fl_X6_9 (by decide) rfl 0 rfl (.int i1) rfl rfl (Nat.le_of_ble_eq_true rfl) dX6_init_6 (fun H locs hP hD hS => ?_)
  have hP : va_P D vwCl ([(h0, .inr (6, [.int i1, .int 0, .int 0, .int 0, .int 0, .int 0, .int 0]))] ++ ([] : va_W)) H := hP
  have hD : va_D A ([(h0, .inr (6, [.int i1, .int 0, .int 0, .int 0, .int 0, .int 0, .int 0]))] ++ ([] : va_W)) := hD
  refine lv_aload_n (pc := 9) C.1 C.2.1 dX6_init_9 rfl (lv_at hl 0 rfl) ?_
  refine lv_bipush (pc := 10) (v := 10) C.1 C.2.1 dX6_init_10 (by decide) ?_
  refine y_put (pc := 12) C hin hP hD hS ck_6 4 fl_X6_15 (by decide) rfl 0 rfl (.int 10) rfl rfl (Nat.le_of_ble_eq_true rfl) dX6_init_12 (fun H locs hP hD hS => ?_)
  have hP : va_P D vwCl ([(h0, .inr (6, [.int i1, .int 0, .int 0, .int 0, .int 10, .int 0, .int 0]))] ++ ([] : va_W)) H := hP
  have hD : va_D A ([(h0, .inr (6, [.int i1, .int 0, .int 0, .int 0, .int 10, .int 0, .int 0]))] ++ ([] : va_W)) := hD
  refine lv_aload_n (pc := 15) C.1 C.2.1 dX6_init_15 rfl (lv_at hl 0 rfl) ?_
  refine lv_bipush (pc := 16) (v := 10) C.1 C.2.1 dX6_init_16 (by decide) ?_
  refine y_put (pc := 18) C hin hP hD hS ck_6 5 fl_X6_18 (by decide) rfl 0 rfl (.int 10) rfl rfl (Nat.le_of_ble_eq_true rfl) dX6_init_18 (fun H locs hP hD hS => ?_)
  have hP : va_P D vwCl ([(h0, .inr (6, [.int i1, .int 0, .int 0, .int 0, .int 10, .int 10, .int 0]))] ++ ([] : va_W)) H := hP
  have hD : va_D A ([(h0, .inr (6, [.int i1, .int 0, .int 0, .int 0, .int 10, .int 10, .int 0]))] ++ ([] : va_W)) := hD
  obtain ⟨aa, haa⟩ : ∃ aa : List Nat → Nat, aa = (fun z => match z with | [] => 0 | [k] => ([] : List Nat).getD k 0 | i :: z' => ([] : List (List Nat → Nat)).getD i (fun _ => 0) z') := ⟨_, rfl⟩
  have hP9 : va_P D vwCl (cel_X6 cy h0 i1 aa) H := by rw [haa]; exact hP
  have hD9 : va_D A (cel_X6 cy h0 i1 aa) := by rw [haa]; exact hD
  exact W.vret C.1 C.2.1 hr (fun t ht hW => ⟨⟨aa, rfl, trivial, by rw [ht]; exact hP9, hD9⟩, hS.F ht⟩) hS.2.2 dX6_init_21 hlk
def tl_X4 (cy : Nat → ClassId) (h0 : Nat) (i1 : Int32) (a : List Nat → Nat) : va_W := ((a [3]), .inl (cy 15, 3, .inr (.inr (.inr (.inr (fun j => some (a [0 + j]))))))) :: ((a [2]), .inr (6, [.int ((i1 * 3) + 2), .int 0, .int 0, .int 0, .int 10, .int 10, .int 0])) :: (tl_X6 cy (a [2]) ((i1 * 3) + 2) (fun z => a (2 :: z)) ++ ((a [1]), .inr (6, [.int ((i1 * 3) + 1), .int 0, .int 0, .int 0, .int 10, .int 10, .int 0])) :: (tl_X6 cy (a [1]) ((i1 * 3) + 1) (fun z => a (1 :: z)) ++ ((a [0]), .inr (6, [.int ((i1 * 3) + 0), .int 0, .int 0, .int 0, .int 10, .int 10, .int 0])) :: (tl_X6 cy (a [0]) ((i1 * 3) + 0) (fun z => a (0 :: z)) ++ ([] : va_W))))
def cel_X4 (cy : Nat → ClassId) (h0 : Nat) (i1 : Int32) (a : List Nat → Nat) : va_W := (h0, .inr (4, [.ref (a [3]), .int 0, .int 0, .int 0, .int 0])) :: tl_X4 cy h0 i1 a
theorem mc_X4 : MC yX4_init cX4_init 3 1 := ⟨cd_X4_init, im_X4_init, in_X4, rfl, by decide +kernel, by decide⟩
set_option maxHeartbeats 4000000 in
set_option maxRecDepth 100000 in
theorem k_X4 (l : Launch) (D : va_G) (cy : Nat → ClassId) (h0 sz : Nat) (i1 : Int32) : Met l yX4_init (Cond.code yX4_init cX4_init 3 none :: wsG) (rmI 2 4 24) (pcI cy D [.int i1] h0 (.inr (4, [.null, .int 0, .int 0, .int 0, .int 0])) sz) (qI D (fun a => cel_X4 cy h0 i1 a) (va_A [(h0, .inr (4, [.null, .int 0, .int 0, .int 0, .int 0]))] sz)) 4 24 (va_A [(h0, .inr (4, [.null, .int 0, .int 0, .int 0, .int 0]))] sz) := by
  refine Met.ofW (cc := cX4_init) (maxL := 3) (ret := none) (by decide) rfl ?_
  intro p e s m args below meth c s₁ B hml hv
  obtain ⟨rfl, hsz, hP, hK, hN⟩ := hv
  have hts := atoms_spec (ws := Cond.code yX4_init cX4_init 3 none :: wsG) B.pre
  have hown : s.vm.findClass RX4 = some m.cls := findClass_of_methodNamed B.named
  have hin : meth.name = "<init>" := (name_of_methodNamed B.named B.method).1
  have C : Cx p s m _ c cX4_init 3 RX4 D cy := ⟨B.exec, B.bytes, hml, hown, fun w hw => hts w (List.mem_cons_of_mem _ hw), hK⟩
  have hr := B.returns
  have hlk := B.notSynchronized
  have hR : RoL 2 (headSpec (Cond.code yX4_init cX4_init 3 none :: wsG) (rmI 2 4 24)).room := RoL_rmI _ _ _
  subst hsz
  have hD := (D1 (h0, .inr (4, [.null, .int 0, .int 0, .int 0, .int 0]))).self (sz := s.heap.size)
  generalize hAe : va_A [(h0, .inr (4, [.null, .int 0, .int 0, .int 0, .int 0]))] s.heap.size = A at hD ⊢
  have hA : ∀ q : Nat, s.heap.size ≤ q → A q := fun q h => by rw [← hAe]; exact Or.inr h
  have hS : va_S A s.heap s.heap [] := va_S.rf
  have hP : va_P D vwCl ([(h0, .inr (4, [.null, .int 0, .int 0, .int 0, .int 0]))] ++ ([] : va_W)) s.heap := hP
  have hD : va_D A ([(h0, .inr (4, [.null, .int 0, .int 0, .int 0, .int 0]))] ++ ([] : va_W)) := hD
  have hl := lv_entry ([.ref h0, .int i1]) (n := 3) (Nat.le_of_ble_eq_true rfl)
  rw [lg_entry_eq]
  generalize (lg_sl ([.ref h0, .int i1]) ++ List.replicate (3 - (lg_sl ([.ref h0, .int i1])).length) Slot.unset).toArray = ls at hl ⊢
  have hl : lv_has ls 3 [(0, .ref h0), (1, .int i1)] := hl
  refine lv_aload_n (pc := 0) C.1 C.2.1 dX4_init_0 rfl (lv_at hl 0 rfl) ?_
  refine y_obj (pc := 1) C ml_X4_3 (hR.le (by decide)) hl.1 dX4_init_1 ?_
  refine lv_aload_n (pc := 4) C.1 C.2.1 dX4_init_4 rfl (lv_at hl 0 rfl) ?_
  refine lv_iconst (pc := 5) (v := 3) C.1 C.2.1 dX4_init_5 (by decide) ?_
  refine y_newq (pc := 6) C hP hD hS hA 3 rfl hN.1.2.1 kl_X4_9 3 (by decide) (by decide) (by decide) (by decide) (by decide) dX4_init_6 (fun q1 H hP hD hS => ?_)
  have hP : va_P D vwCl ([(h0, .inr (4, [.null, .int 0, .int 0, .int 0, .int 0])), (q1, .inl (cy 15, 3, .inr (.inr (.inr (.inr (fun _ => none))))))] ++ ([] : va_W)) H := hP
  have hD : va_D A ([(h0, .inr (4, [.null, .int 0, .int 0, .int 0, .int 0])), (q1, .inl (cy 15, 3, .inr (.inr (.inr (.inr (fun _ => none))))))] ++ ([] : va_W)) := hD
  refine W.widen (k := 1) (n := 3) (by decide) (by decide) ?_
  refine y_put (pc := 9) C hin hP hD hS ck_4 0 fl_X4_11 (by decide) rfl 0 rfl (.ref q1) rfl rfl (Nat.le_of_ble_eq_true rfl) dX4_init_9 (fun H locs hP hD hS => ?_)
  have hP : va_P D vwCl ([(h0, .inr (4, [.ref q1, .int 0, .int 0, .int 0, .int 0])), (q1, .inl (cy 15, 3, .inr (.inr (.inr (.inr (fun _ => none))))))] ++ ([] : va_W)) H := hP
  have hD : va_D A ([(h0, .inr (4, [.ref q1, .int 0, .int 0, .int 0, .int 0])), (q1, .inl (cy 15, 3, .inr (.inr (.inr (.inr (fun _ => none))))))] ++ ([] : va_W)) := hD
  refine lv_iconst (pc := 12) (v := 0) C.1 C.2.1 dX4_init_12 (by decide) ?_
  refine lv_istore_n (pc := 13) (lv' := [(2, .int 0), (0, .ref h0), (1, .int i1)]) C.1 C.2.1 dX4_init_13 rfl hl (by decide) rfl (fun ls hl => ?_)
  refine lv_iload_n (pc := 14) C.1 C.2.1 dX4_init_14 rfl (lv_at hl 0 rfl) ?_
  refine lv_iconst (pc := 15) (v := 3) C.1 C.2.1 dX4_init_15 (by decide) ?_
  refine lv_icmp_ge (pc := 16) (tgt := 43) C.1 C.2.1 dX4_init_16 (by decide) (fun b => absurd b (by decide)) (fun _ => ?_)
  refine lv_aload_n (pc := 19) C.1 C.2.1 dX4_init_19 rfl (lv_at hl 1 rfl) ?_
  refine y_get (pc := 20) C hP ck_4 0 fl_X4_11 (by decide) 0 rfl (.ref q1) rfl dX4_init_20 ?_
  refine lv_iload_n (pc := 23) C.1 C.2.1 dX4_init_23 rfl (lv_at hl 0 rfl) ?_
  refine y_new (pc := 24) C hP hD hS hA ck_6 kl_X4_9 ia_X6 in_X6 [.int 0, .int 0, .int 0, .int 0, .int 0, .int 0, .int 0] (fun j hj => by rcases (show j = 0 ∨ j = 1 ∨ j = 2 ∨ j = 3 ∨ j = 4 ∨ j = 5 ∨ j = 6 by have h9 : nfl 6 = 7 := rfl; omega) with rfl | rfl | rfl | rfl | rfl | rfl | rfl <;> rfl) (by decide) (by decide) dX4_init_24 (fun q2 H hP hD hS => ?_)
  have hP : va_P D vwCl ([(h0, .inr (4, [.ref q1, .int 0, .int 0, .int 0, .int 0])), (q1, .inl (cy 15, 3, .inr (.inr (.inr (.inr (fun _ => none)))))), (q2, .inr (6, [.int 0, .int 0, .int 0, .int 0, .int 0, .int 0, .int 0]))] ++ ([] : va_W)) H := hP
  have hD : va_D A ([(h0, .inr (4, [.ref q1, .int 0, .int 0, .int 0, .int 0])), (q1, .inl (cy 15, 3, .inr (.inr (.inr (.inr (fun _ => none)))))), (q2, .inr (6, [.int 0, .int 0, .int 0, .int 0, .int 0, .int 0, .int 0]))] ++ ([] : va_W)) := hD
  refine W.widen (k := 2) (n := 10) (by decide) (by decide) ?_
  refine lv_dup (pc := 27) C.1 C.2.1 dX4_init_27 rfl ?_
  refine lv_iload_n (pc := 28) C.1 C.2.1 dX4_init_28 rfl (lv_at hl 2 rfl) ?_
  refine lv_iconst (pc := 29) (v := 3) C.1 C.2.1 dX4_init_29 (by decide) ?_
  refine lv_imul (pc := 30) C.1 C.2.1 dX4_init_30 ?_
  refine lv_iload_n (pc := 31) C.1 C.2.1 dX4_init_31 rfl (lv_at hl 0 rfl) ?_
  refine lv_iadd (pc := 32) C.1 C.2.1 dX4_init_32 ?_
  refine y_call (pc := 33) C hN hP hD hS hA 2 [0, 1] (wr := [(h0, .inr (4, [.ref q1, .int 0, .int 0, .int 0, .int 0])), (q1, .inl (cy 15, 3, .inr (.inr (.inr (.inr (fun _ => none))))))]) rfl rfl (by decide) (by decide) (fun hp => y_runL (pc := 33) C mc_X6 ml_X4_17 (hR.le (by decide)) (by decide) [.int ((i1 * 3) + 0)] rfl hl.1 rfl (Nat.le_of_ble_eq_true rfl) dX4_init_33 (k_X6 l D cy q2 _ ((i1 * 3) + 0)) hp) (fun a3 H locs hP hD hS => ?_)
  have hP : va_P D vwCl (([(h0, .inr (4, [.ref q1, .int 0, .int 0, .int 0, .int 0])), (q1, .inl (cy 15, 3, .inr (.inr (.inr (.inr (fun _ => none))))))] ++ ((q2, .inr (6, [.int ((i1 * 3) + 0), .int 0, .int 0, .int 0, .int 10, .int 10, .int 0])) :: tl_X6 cy q2 ((i1 * 3) + 0) a3)) ++ ([] : va_W)) H := hP
  have hD : va_D A (([(h0, .inr (4, [.ref q1, .int 0, .int 0, .int 0, .int 0])), (q1, .inl (cy 15, 3, .inr (.inr (.inr (.inr (fun _ => none))))))] ++ ((q2, .inr (6, [.int ((i1 * 3) + 0), .int 0, .int 0, .int 0, .int 10, .int 10, .int 0])) :: tl_X6 cy q2 ((i1 * 3) + 0) a3)) ++ ([] : va_W)) := hD
  rw [y_eqS] at hP hD
  obtain ⟨pl4, epl4⟩ : ∃ z : va_W, z = tl_X6 cy q2 ((i1 * 3) + 0) a3 ++ ([] : va_W) := ⟨_, rfl⟩
  rw [← epl4] at hP hD
  have hP : va_P D vwCl ([(h0, .inr (4, [.ref q1, .int 0, .int 0, .int 0, .int 0])), (q1, .inl (cy 15, 3, .inr (.inr (.inr (.inr (fun _ => none)))))), (q2, .inr (6, [.int ((i1 * 3) + 0), .int 0, .int 0, .int 0, .int 10, .int 10, .int 0]))] ++ pl4) H := hP
  have hD : va_D A ([(h0, .inr (4, [.ref q1, .int 0, .int 0, .int 0, .int 0])), (q1, .inl (cy 15, 3, .inr (.inr (.inr (.inr (fun _ => none)))))), (q2, .inr (6, [.int ((i1 * 3) + 0), .int 0, .int 0, .int 0, .int 10, .int 10, .int 0]))] ++ pl4) := hD
  refine W.widen (k := 2) (n := 10) (by decide) (by decide) ?_
  refine y_ast (pc := 36) C hP hD hS 1 3 2 6 rfl rfl rfl rfl 0 (by decide) (inB_vp (by decide)) dX4_init_36 (fun H locs hP hD hS => ?_)
  have hP : va_P D vwCl ([(h0, .inr (4, [.ref q1, .int 0, .int 0, .int 0, .int 0])), (q1, .inl (cy 15, 3, .inr (.inr (.inr (.inr (va_up (fun _ => none) 0 (some q2))))))), (q2, .inr (6, [.int ((i1 * 3) + 0), .int 0, .int 0, .int 0, .int 10, .int 10, .int 0]))] ++ pl4) H := hP
  have hD : va_D A ([(h0, .inr (4, [.ref q1, .int 0, .int 0, .int 0, .int 0])), (q1, .inl (cy 15, 3, .inr (.inr (.inr (.inr (va_up (fun _ => none) 0 (some q2))))))), (q2, .inr (6, [.int ((i1 * 3) + 0), .int 0, .int 0, .int 0, .int 10, .int 10, .int 0]))] ++ pl4) := hD
  rw [show [(h0, .inr (4, [.ref q1, .int 0, .int 0, .int 0, .int 0])), (q1, .inl (cy 15, 3, .inr (.inr (.inr (.inr (va_up (fun _ => none) 0 (some q2))))))), (q2, .inr (6, [.int ((i1 * 3) + 0), .int 0, .int 0, .int 0, .int 10, .int 10, .int 0]))] ++ pl4 = [(h0, .inr (4, [.ref q1, .int 0, .int 0, .int 0, .int 0])), (q1, .inl (cy 15, 3, .inr (.inr (.inr (.inr (va_up (fun _ => none) 0 (some q2)))))))] ++ ((q2, .inr (6, [.int ((i1 * 3) + 0), .int 0, .int 0, .int 0, .int 10, .int 10, .int 0])) :: pl4) from rfl] at hP hD
  obtain ⟨pl5, epl5⟩ : ∃ z : va_W, z = (q2, .inr (6, [.int ((i1 * 3) + 0), .int 0, .int 0, .int 0, .int 10, .int 10, .int 0])) :: pl4 := ⟨_, rfl⟩
  rw [← epl5] at hP hD
  refine lv_iinc (pc := 37) (v := 1) (lv' := [(2, .int 1), (0, .ref h0), (1, .int i1)]) C.1 C.2.1 dX4_init_37 hl (k := 0) rfl (by decide) (by decide) rfl (fun ls hl => ?_)
  refine lv_goto (pc := 40) (tgt := 14) C.1 C.2.1 dX4_init_40 (by decide) ?_
  refine lv_iload_n (pc := 14) C.1 C.2.1 dX4_init_14 rfl (lv_at hl 0 rfl) ?_
  refine lv_iconst (pc := 15) (v := 3) C.1 C.2.1 dX4_init_15 (by decide) ?_
  refine lv_icmp_ge (pc := 16) (tgt := 43) C.1 C.2.1 dX4_init_16 (by decide) (fun b => absurd b (by decide)) (fun _ => ?_)
  refine lv_aload_n (pc := 19) C.1 C.2.1 dX4_init_19 rfl (lv_at hl 1 rfl) ?_
  refine y_get (pc := 20) C hP ck_4 0 fl_X4_11 (by decide) 0 rfl (.ref q1) rfl dX4_init_20 ?_
  refine lv_iload_n (pc := 23) C.1 C.2.1 dX4_init_23 rfl (lv_at hl 0 rfl) ?_
  refine y_new (pc := 24) C hP hD hS hA ck_6 kl_X4_9 ia_X6 in_X6 [.int 0, .int 0, .int 0, .int 0, .int 0, .int 0, .int 0] (fun j hj => by rcases (show j = 0 ∨ j = 1 ∨ j = 2 ∨ j = 3 ∨ j = 4 ∨ j = 5 ∨ j = 6 by have h9 : nfl 6 = 7 := rfl; omega) with rfl | rfl | rfl | rfl | rfl | rfl | rfl <;> rfl) (by decide) (by decide) dX4_init_24 (fun q6 H hP hD hS => ?_)
  have hP : va_P D vwCl ([(h0, .inr (4, [.ref q1, .int 0, .int 0, .int 0, .int 0])), (q1, .inl (cy 15, 3, .inr (.inr (.inr (.inr (va_up (fun _ => none) 0 (some q2))))))), (q6, .inr (6, [.int 0, .int 0, .int 0, .int 0, .int 0, .int 0, .int 0]))] ++ pl5) H := hP
  have hD : va_D A ([(h0, .inr (4, [.ref q1, .int 0, .int 0, .int 0, .int 0])), (q1, .inl (cy 15, 3, .inr (.inr (.inr (.inr (va_up (fun _ => none) 0 (some q2))))))), (q6, .inr (6, [.int 0, .int 0, .int 0, .int 0, .int 0, .int 0, .int 0]))] ++ pl5) := hD
  refine W.widen (k := 3) (n := 17) (by decide) (by decide) ?_
  refine lv_dup (pc := 27) C.1 C.2.1 dX4_init_27 rfl ?_
  refine lv_iload_n (pc := 28) C.1 C.2.1 dX4_init_28 rfl (lv_at hl 2 rfl) ?_
  refine lv_iconst (pc := 29) (v := 3) C.1 C.2.1 dX4_init_29 (by decide) ?_
  refine lv_imul (pc := 30) C.1 C.2.1 dX4_init_30 ?_
  refine lv_iload_n (pc := 31) C.1 C.2.1 dX4_init_31 rfl (lv_at hl 0 rfl) ?_
  refine lv_iadd (pc := 32) C.1 C.2.1 dX4_init_32 ?_
  refine y_call (pc := 33) C hN hP hD hS hA 2 [0, 1] (wr := [(h0, .inr (4, [.ref q1, .int 0, .int 0, .int 0, .int 0])), (q1, .inl (cy 15, 3, .inr (.inr (.inr (.inr (va_up (fun _ => none) 0 (some q2)))))))]) rfl rfl (by decide) (by decide) (fun hp => y_runL (pc := 33) C mc_X6 ml_X4_17 (hR.le (by decide)) (by decide) [.int ((i1 * 3) + 1)] rfl hl.1 rfl (Nat.le_of_ble_eq_true rfl) dX4_init_33 (k_X6 l D cy q6 _ ((i1 * 3) + 1)) hp) (fun a7 H locs hP hD hS => ?_)
  have hP : va_P D vwCl (([(h0, .inr (4, [.ref q1, .int 0, .int 0, .int 0, .int 0])), (q1, .inl (cy 15, 3, .inr (.inr (.inr (.inr (va_up (fun _ => none) 0 (some q2)))))))] ++ ((q6, .inr (6, [.int ((i1 * 3) + 1), .int 0, .int 0, .int 0, .int 10, .int 10, .int 0])) :: tl_X6 cy q6 ((i1 * 3) + 1) a7)) ++ pl5) H := hP
  have hD : va_D A (([(h0, .inr (4, [.ref q1, .int 0, .int 0, .int 0, .int 0])), (q1, .inl (cy 15, 3, .inr (.inr (.inr (.inr (va_up (fun _ => none) 0 (some q2)))))))] ++ ((q6, .inr (6, [.int ((i1 * 3) + 1), .int 0, .int 0, .int 0, .int 10, .int 10, .int 0])) :: tl_X6 cy q6 ((i1 * 3) + 1) a7)) ++ pl5) := hD
  rw [y_eqS] at hP hD
  obtain ⟨pl8, epl8⟩ : ∃ z : va_W, z = tl_X6 cy q6 ((i1 * 3) + 1) a7 ++ pl5 := ⟨_, rfl⟩
  rw [← epl8] at hP hD
  have hP : va_P D vwCl ([(h0, .inr (4, [.ref q1, .int 0, .int 0, .int 0, .int 0])), (q1, .inl (cy 15, 3, .inr (.inr (.inr (.inr (va_up (fun _ => none) 0 (some q2))))))), (q6, .inr (6, [.int ((i1 * 3) + 1), .int 0, .int 0, .int 0, .int 10, .int 10, .int 0]))] ++ pl8) H := hP
  have hD : va_D A ([(h0, .inr (4, [.ref q1, .int 0, .int 0, .int 0, .int 0])), (q1, .inl (cy 15, 3, .inr (.inr (.inr (.inr (va_up (fun _ => none) 0 (some q2))))))), (q6, .inr (6, [.int ((i1 * 3) + 1), .int 0, .int 0, .int 0, .int 10, .int 10, .int 0]))] ++ pl8) := hD
  refine W.widen (k := 3) (n := 17) (by decide) (by decide) ?_
  refine y_ast (pc := 36) C hP hD hS 1 3 2 6 rfl rfl rfl rfl 1 (by decide) (inB_vp (by decide)) dX4_init_36 (fun H locs hP hD hS => ?_)
  have hP : va_P D vwCl ([(h0, .inr (4, [.ref q1, .int 0, .int 0, .int 0, .int 0])), (q1, .inl (cy 15, 3, .inr (.inr (.inr (.inr (va_up (va_up (fun _ => none) 0 (some q2)) 1 (some q6))))))), (q6, .inr (6, [.int ((i1 * 3) + 1), .int 0, .int 0, .int 0, .int 10, .int 10, .int 0]))] ++ pl8) H := hP
  have hD : va_D A ([(h0, .inr (4, [.ref q1, .int 0, .int 0, .int 0, .int 0])), (q1, .inl (cy 15, 3, .inr (.inr (.inr (.inr (va_up (va_up (fun _ => none) 0 (some q2)) 1 (some q6))))))), (q6, .inr (6, [.int ((i1 * 3) + 1), .int 0, .int 0, .int 0, .int 10, .int 10, .int 0]))] ++ pl8) := hD
  rw [show [(h0, .inr (4, [.ref q1, .int 0, .int 0, .int 0, .int 0])), (q1, .inl (cy 15, 3, .inr (.inr (.inr (.inr (va_up (va_up (fun _ => none) 0 (some q2)) 1 (some q6))))))), (q6, .inr (6, [.int ((i1 * 3) + 1), .int 0, .int 0, .int 0, .int 10, .int 10, .int 0]))] ++ pl8 = [(h0, .inr (4, [.ref q1, .int 0, .int 0, .int 0, .int 0])), (q1, .inl (cy 15, 3, .inr (.inr (.inr (.inr (va_up (va_up (fun _ => none) 0 (some q2)) 1 (some q6)))))))] ++ ((q6, .inr (6, [.int ((i1 * 3) + 1), .int 0, .int 0, .int 0, .int 10, .int 10, .int 0])) :: pl8) from rfl] at hP hD
  obtain ⟨pl9, epl9⟩ : ∃ z : va_W, z = (q6, .inr (6, [.int ((i1 * 3) + 1), .int 0, .int 0, .int 0, .int 10, .int 10, .int 0])) :: pl8 := ⟨_, rfl⟩
  rw [← epl9] at hP hD
  refine lv_iinc (pc := 37) (v := 2) (lv' := [(2, .int 2), (0, .ref h0), (1, .int i1)]) C.1 C.2.1 dX4_init_37 hl (k := 0) rfl (by decide) (by decide) rfl (fun ls hl => ?_)
  refine lv_goto (pc := 40) (tgt := 14) C.1 C.2.1 dX4_init_40 (by decide) ?_
  refine lv_iload_n (pc := 14) C.1 C.2.1 dX4_init_14 rfl (lv_at hl 0 rfl) ?_
  refine lv_iconst (pc := 15) (v := 3) C.1 C.2.1 dX4_init_15 (by decide) ?_
  refine lv_icmp_ge (pc := 16) (tgt := 43) C.1 C.2.1 dX4_init_16 (by decide) (fun b => absurd b (by decide)) (fun _ => ?_)
  refine lv_aload_n (pc := 19) C.1 C.2.1 dX4_init_19 rfl (lv_at hl 1 rfl) ?_
  refine y_get (pc := 20) C hP ck_4 0 fl_X4_11 (by decide) 0 rfl (.ref q1) rfl dX4_init_20 ?_
  refine lv_iload_n (pc := 23) C.1 C.2.1 dX4_init_23 rfl (lv_at hl 0 rfl) ?_
  refine y_new (pc := 24) C hP hD hS hA ck_6 kl_X4_9 ia_X6 in_X6 [.int 0, .int 0, .int 0, .int 0, .int 0, .int 0, .int 0] (fun j hj => by rcases (show j = 0 ∨ j = 1 ∨ j = 2 ∨ j = 3 ∨ j = 4 ∨ j = 5 ∨ j = 6 by have h9 : nfl 6 = 7 := rfl; omega) with rfl | rfl | rfl | rfl | rfl | rfl | rfl <;> rfl) (by decide) (by decide) dX4_init_24 (fun q10 H hP hD hS => ?_)
  have hP : va_P D vwCl ([(h0, .inr (4, [.ref q1, .int 0, .int 0, .int 0, .int 0])), (q1, .inl (cy 15, 3, .inr (.inr (.inr (.inr (va_up (va_up (fun _ => none) 0 (some q2)) 1 (some q6))))))), (q10, .inr (6, [.int 0, .int 0, .int 0, .int 0, .int 0, .int 0, .int 0]))] ++ pl9) H := hP
  have hD : va_D A ([(h0, .inr (4, [.ref q1, .int 0, .int 0, .int 0, .int 0])), (q1, .inl (cy 15, 3, .inr (.inr (.inr (.inr (va_up (va_up (fun _ => none) 0 (some q2)) 1 (some q6))))))), (q10, .inr (6, [.int 0, .int 0, .int 0, .int 0, .int 0, .int 0, .int 0]))] ++ pl9) := hD
  refine W.widen (k := 4) (n := 24) (by decide) (by decide) ?_
  refine lv_dup (pc := 27) C.1 C.2.1 dX4_init_27 rfl ?_
  refine lv_iload_n (pc := 28) C.1 C.2.1 dX4_init_28 rfl (lv_at hl 2 rfl) ?_
  refine lv_iconst (pc := 29) (v := 3) C.1 C.2.1 dX4_init_29 (by decide) ?_
  refine lv_imul (pc := 30) C.1 C.2.1 dX4_init_30 ?_
  refine lv_iload_n (pc := 31) C.1 C.2.1 dX4_init_31 rfl (lv_at hl 0 rfl) ?_
  refine lv_iadd (pc := 32) C.1 C.2.1 dX4_init_32 ?_
  refine y_call (pc := 33) C hN hP hD hS hA 2 [0, 1] (wr := [(h0, .inr (4, [.ref q1, .int 0, .int 0, .int 0, .int 0])), (q1, .inl (cy 15, 3, .inr (.inr (.inr (.inr (va_up (va_up (fun _ => none) 0 (some q2)) 1 (some q6)))))))]) rfl rfl (by decide) (by decide) (fun hp => y_runL (pc := 33) C mc_X6 ml_X4_17 (hR.le (by decide)) (by decide) [.int ((i1 * 3) + 2)] rfl hl.1 rfl (Nat.le_of_ble_eq_true rfl) dX4_init_33 (k_X6 l D cy q10 _ ((i1 * 3) + 2)) hp) (fun a11 H locs hP hD hS => ?_)
  have hP : va_P D vwCl (([(h0, .inr (4, [.ref q1, .int 0, .int 0, .int 0, .int 0])), (q1, .inl (cy 15, 3, .inr (.inr (.inr (.inr (va_up (va_up (fun _ => none) 0 (some q2)) 1 (some q6)))))))] ++ ((q10, .inr (6, [.int ((i1 * 3) + 2), .int 0, .int 0, .int 0, .int 10, .int 10, .int 0])) :: tl_X6 cy q10 ((i1 * 3) + 2) a11)) ++ pl9) H := hP
  have hD : va_D A (([(h0, .inr (4, [.ref q1, .int 0, .int 0, .int 0, .int 0])), (q1, .inl (cy 15, 3, .inr (.inr (.inr (.inr (va_up (va_up (fun _ => none) 0 (some q2)) 1 (some q6)))))))] ++ ((q10, .inr (6, [.int ((i1 * 3) + 2), .int 0, .int 0, .int 0, .int 10, .int 10, .int 0])) :: tl_X6 cy q10 ((i1 * 3) + 2) a11)) ++ pl9) := hD
  rw [y_eqS] at hP hD
  obtain ⟨pl12, epl12⟩ : ∃ z : va_W, z = tl_X6 cy q10 ((i1 * 3) + 2) a11 ++ pl9 := ⟨_, rfl⟩
  rw [← epl12] at hP hD
  have hP : va_P D vwCl ([(h0, .inr (4, [.ref q1, .int 0, .int 0, .int 0, .int 0])), (q1, .inl (cy 15, 3, .inr (.inr (.inr (.inr (va_up (va_up (fun _ => none) 0 (some q2)) 1 (some q6))))))), (q10, .inr (6, [.int ((i1 * 3) + 2), .int 0, .int 0, .int 0, .int 10, .int 10, .int 0]))] ++ pl12) H := hP
  have hD : va_D A ([(h0, .inr (4, [.ref q1, .int 0, .int 0, .int 0, .int 0])), (q1, .inl (cy 15, 3, .inr (.inr (.inr (.inr (va_up (va_up (fun _ => none) 0 (some q2)) 1 (some q6))))))), (q10, .inr (6, [.int ((i1 * 3) + 2), .int 0, .int 0, .int 0, .int 10, .int 10, .int 0]))] ++ pl12) := hD
  refine W.widen (k := 4) (n := 24) (by decide) (by decide) ?_
  refine y_ast (pc := 36) C hP hD hS 1 3 2 6 rfl rfl rfl rfl 2 (by decide) (inB_vp (by decide)) dX4_init_36 (fun H locs hP hD hS => ?_)
  have hP : va_P D vwCl ([(h0, .inr (4, [.ref q1, .int 0, .int 0, .int 0, .int 0])), (q1, .inl (cy 15, 3, .inr (.inr (.inr (.inr (va_up (va_up (va_up (fun _ => none) 0 (some q2)) 1 (some q6)) 2 (some q10))))))), (q10, .inr (6, [.int ((i1 * 3) + 2), .int 0, .int 0, .int 0, .int 10, .int 10, .int 0]))] ++ pl12) H := hP
  have hD : va_D A ([(h0, .inr (4, [.ref q1, .int 0, .int 0, .int 0, .int 0])), (q1, .inl (cy 15, 3, .inr (.inr (.inr (.inr (va_up (va_up (va_up (fun _ => none) 0 (some q2)) 1 (some q6)) 2 (some q10))))))), (q10, .inr (6, [.int ((i1 * 3) + 2), .int 0, .int 0, .int 0, .int 10, .int 10, .int 0]))] ++ pl12) := hD
  rw [show [(h0, .inr (4, [.ref q1, .int 0, .int 0, .int 0, .int 0])), (q1, .inl (cy 15, 3, .inr (.inr (.inr (.inr (va_up (va_up (va_up (fun _ => none) 0 (some q2)) 1 (some q6)) 2 (some q10))))))), (q10, .inr (6, [.int ((i1 * 3) + 2), .int 0, .int 0, .int 0, .int 10, .int 10, .int 0]))] ++ pl12 = [(h0, .inr (4, [.ref q1, .int 0, .int 0, .int 0, .int 0])), (q1, .inl (cy 15, 3, .inr (.inr (.inr (.inr (va_up (va_up (va_up (fun _ => none) 0 (some q2)) 1 (some q6)) 2 (some q10)))))))] ++ ((q10, .inr (6, [.int ((i1 * 3) + 2), .int 0, .int 0, .int 0, .int 10, .int 10, .int 0])) :: pl12) from rfl] at hP hD
  obtain ⟨pl13, epl13⟩ : ∃ z : va_W, z = (q10, .inr (6, [.int ((i1 * 3) + 2), .int 0, .int 0, .int 0, .int 10, .int 10, .int 0])) :: pl12 := ⟨_, rfl⟩
  rw [← epl13] at hP hD
  refine lv_iinc (pc := 37) (v := 3) (lv' := [(2, .int 3), (0, .ref h0), (1, .int i1)]) C.1 C.2.1 dX4_init_37 hl (k := 0) rfl (by decide) (by decide) rfl (fun ls hl => ?_)
  refine lv_goto (pc := 40) (tgt := 14) C.1 C.2.1 dX4_init_40 (by decide) ?_
  refine lv_iload_n (pc := 14) C.1 C.2.1 dX4_init_14 rfl (lv_at hl 0 rfl) ?_
  refine lv_iconst (pc := 15) (v := 3) C.1 C.2.1 dX4_init_15 (by decide) ?_
  refine lv_icmp_ge (pc := 16) (tgt := 43) C.1 C.2.1 dX4_init_16 (by decide) (fun _ => ?_) (fun b => absurd (by decide) b)
  obtain ⟨aa, haa⟩ : ∃ aa : List Nat → Nat, aa = (fun z => match z with | [] => 0 | [k] => ([q2, q6, q10, q1] : List Nat).getD k 0 | i :: z' => ([a3, a7, a11] : List (List Nat → Nat)).getD i (fun _ => 0) z') := ⟨_, rfl⟩
  have hP := arrq hP 1 (fun j => some (aa [0 + j])) rfl (fun j hj => by rw [haa]; rcases (show j = 0 ∨ j = 1 ∨ j = 2 by omega) with rfl | rfl | rfl <;> rfl)
  have hD := hD.set (e := .inl (cy 15, 3, .inr (.inr (.inr (.inr (fun j => some (aa [0 + j]))))))) (show ([(h0, .inr (4, [.ref q1, .int 0, .int 0, .int 0, .int 0])), (q1, .inl (cy 15, 3, .inr (.inr (.inr (.inr (va_up (va_up (va_up (fun _ => none) 0 (some q2)) 1 (some q6)) 2 (some q10)))))))] ++ pl13)[1]? = some _ from rfl)
  have hP : va_P D vwCl ([(h0, .inr (4, [.ref q1, .int 0, .int 0, .int 0, .int 0])), (q1, .inl (cy 15, 3, .inr (.inr (.inr (.inr (fun j => some (aa [0 + j])))))))] ++ pl13) H := hP
  have hD : va_D A ([(h0, .inr (4, [.ref q1, .int 0, .int 0, .int 0, .int 0])), (q1, .inl (cy 15, 3, .inr (.inr (.inr (.inr (fun j => some (aa [0 + j])))))))] ++ pl13) := hD
  have hP9 : va_P D vwCl (cel_X4 cy h0 i1 aa) H := by rw [haa] at hP ⊢; rw [epl13, epl12, epl9, epl8, epl5, epl4] at hP; exact hP
  have hD9 : va_D A (cel_X4 cy h0 i1 aa) := by rw [haa] at hD ⊢; rw [epl13, epl12, epl9, epl8, epl5, epl4] at hD; exact hD
  exact W.vret C.1 C.2.1 hr (fun t ht hW => ⟨⟨aa, rfl, trivial, by rw [ht]; exact hP9, hD9⟩, hS.F ht⟩) hS.2.2 dX4_init_43 hlk
def tl_X0 (cy : Nat → ClassId) (h0 : Nat) (a : List Nat → Nat) : va_W := ((a [0]), .inl (cy 12, 20, .inl (fun _ => 0))) :: ((a [1]), .inl (cy 12, 20, .inl (fun _ => 0))) :: ((a [2]), .inl (cy 12, 20, .inl (fun _ => 0))) :: ([] : va_W)
def cel_X0 (cy : Nat → ClassId) (h0 : Nat) (a : List Nat → Nat) : va_W := (h0, .inr (0, [.ref (a [0]), .ref (a [1]), .ref (a [2]), .int 0])) :: tl_X0 cy h0 a
theorem mc_X0 : MC yX0_init cX0_init 1 0 := ⟨cd_X0_init, im_X0_init, in_X0, rfl, by decide +kernel, by decide⟩
set_option maxHeartbeats 4000000 in
set_option maxRecDepth 100000 in
theorem k_X0 (l : Launch) (D : va_G) (cy : Nat → ClassId) (h0 sz : Nat) : Met l yX0_init (Cond.code yX0_init cX0_init 1 none :: wsG) (rmI 1 3 60) (pcI cy D [] h0 (.inr (0, [.null, .null, .null, .int 0])) sz) (qI D (fun a => cel_X0 cy h0 a) (va_A [(h0, .inr (0, [.null, .null, .null, .int 0]))] sz)) 3 60 (va_A [(h0, .inr (0, [.null, .null, .null, .int 0]))] sz) := by
  refine Met.ofW (cc := cX0_init) (maxL := 1) (ret := none) (by decide) rfl ?_
  intro p e s m args below meth c s₁ B hml hv
  obtain ⟨rfl, hsz, hP, hK, hN⟩ := hv
  have hts := atoms_spec (ws := Cond.code yX0_init cX0_init 1 none :: wsG) B.pre
  have hown : s.vm.findClass RX0 = some m.cls := findClass_of_methodNamed B.named
  have hin : meth.name = "<init>" := (name_of_methodNamed B.named B.method).1
  have C : Cx p s m _ c cX0_init 1 RX0 D cy := ⟨B.exec, B.bytes, hml, hown, fun w hw => hts w (List.mem_cons_of_mem _ hw), hK⟩
  have hr := B.returns
  have hlk := B.notSynchronized
  have hR : RoL 1 (headSpec (Cond.code yX0_init cX0_init 1 none :: wsG) (rmI 1 3 60)).room := RoL_rmI _ _ _
  subst hsz
  have hD := (D1 (h0, .inr (0, [.null, .null, .null, .int 0]))).self (sz := s.heap.size)
  generalize hAe : va_A [(h0, .inr (0, [.null, .null, .null, .int 0]))] s.heap.size = A at hD ⊢
  have hA : ∀ q : Nat, s.heap.size ≤ q → A q := fun q h => by rw [← hAe]; exact Or.inr h
  have hS : va_S A s.heap s.heap [] := va_S.rf
  have hP : va_P D vwCl ([(h0, .inr (0, [.null, .null, .null, .int 0]))] ++ ([] : va_W)) s.heap := hP
  have hD : va_D A ([(h0, .inr (0, [.null, .null, .null, .int 0]))] ++ ([] : va_W)) := hD
  have hl := lv_entry ([.ref h0]) (n := 1) (Nat.le_of_ble_eq_true rfl)
  rw [lg_entry_eq]
  generalize (lg_sl ([.ref h0]) ++ List.replicate (1 - (lg_sl ([.ref h0])).length) Slot.unset).toArray = ls at hl ⊢
  have hl : lv_has ls 1 [(0, .ref h0)] := hl
  refine lv_aload_n (pc := 0) C.1 C.2.1 dX0_init_0 rfl (lv_at hl 0 rfl) ?_
  refine y_obj (pc := 1) C ml_X0_3 (hR.le (by decide)) hl.1 dX0_init_1 ?_
  refine lv_aload_n (pc := 4) C.1 C.2.1 dX0_init_4 rfl (lv_at hl 0 rfl) ?_
  refine lv_bipush (pc := 5) (v := 20) C.1 C.2.1 dX0_init_5 (by decide) ?_
  refine y_newi (pc := 7) C hP hD hS hA 20 (by decide) (by decide) (by decide) (by decide) (by decide) dX0_init_7 (fun q1 H hP hD hS => ?_)
  have hP : va_P D vwCl ([(h0, .inr (0, [.null, .null, .null, .int 0])), (q1, .inl (cy 12, 20, .inl (fun _ => 0)))] ++ ([] : va_W)) H := hP
  have hD : va_D A ([(h0, .inr (0, [.null, .null, .null, .int 0])), (q1, .inl (cy 12, 20, .inl (fun _ => 0)))] ++ ([] : va_W)) := hD
  refine W.widen (k := 1) (n := 20) (by decide) (by decide) ?_
  refine y_put (pc := 9) C hin hP hD hS ck_0 0 fl_X0_9 (by decide) rfl 0 rfl (.ref q1) rfl rfl (Nat.le_of_ble_eq_true rfl) dX0_init_9 (fun H locs hP hD hS => ?_)
  have hP : va_P D vwCl ([(h0, .inr (0, [.ref q1, .null, .null, .int 0])), (q1, .inl (cy 12, 20, .inl (fun _ => 0)))] ++ ([] : va_W)) H := hP
  have hD : va_D A ([(h0, .inr (0, [.ref q1, .null, .null, .int 0])), (q1, .inl (cy 12, 20, .inl (fun _ => 0)))] ++ ([] : va_W)) := hD
  refine lv_aload_n (pc := 12) C.1 C.2.1 dX0_init_12 rfl (lv_at hl 0 rfl) ?_
  refine lv_bipush (pc := 13) (v := 20) C.1 C.2.1 dX0_init_13 (by decide) ?_
  refine y_newi (pc := 15) C hP hD hS hA 20 (by decide) (by decide) (by decide) (by decide) (by decide) dX0_init_15 (fun q2 H hP hD hS => ?_)
  have hP : va_P D vwCl ([(h0, .inr (0, [.ref q1, .null, .null, .int 0])), (q1, .inl (cy 12, 20, .inl (fun _ => 0))), (q2, .inl (cy 12, 20, .inl (fun _ => 0)))] ++ ([] : va_W)) H := hP
  have hD : va_D A ([(h0, .inr (0, [.ref q1, .null, .null, .int 0])), (q1, .inl (cy 12, 20, .inl (fun _ => 0))), (q2, .inl (cy 12, 20, .inl (fun _ => 0)))] ++ ([] : va_W)) := hD
  refine W.widen (k := 2) (n := 40) (by decide) (by decide) ?_
  refine y_put (pc := 17) C hin hP hD hS ck_0 1 fl_X0_15 (by decide) rfl 0 rfl (.ref q2) rfl rfl (Nat.le_of_ble_eq_true rfl) dX0_init_17 (fun H locs hP hD hS => ?_)
  have hP : va_P D vwCl ([(h0, .inr (0, [.ref q1, .ref q2, .null, .int 0])), (q1, .inl (cy 12, 20, .inl (fun _ => 0))), (q2, .inl (cy 12, 20, .inl (fun _ => 0)))] ++ ([] : va_W)) H := hP
  have hD : va_D A ([(h0, .inr (0, [.ref q1, .ref q2, .null, .int 0])), (q1, .inl (cy 12, 20, .inl (fun _ => 0))), (q2, .inl (cy 12, 20, .inl (fun _ => 0)))] ++ ([] : va_W)) := hD
  refine lv_aload_n (pc := 20) C.1 C.2.1 dX0_init_20 rfl (lv_at hl 0 rfl) ?_
  refine lv_bipush (pc := 21) (v := 20) C.1 C.2.1 dX0_init_21 (by decide) ?_
  refine y_newi (pc := 23) C hP hD hS hA 20 (by decide) (by decide) (by decide) (by decide) (by decide) dX0_init_23 (fun q3 H hP hD hS => ?_)
  have hP : va_P D vwCl ([(h0, .inr (0, [.ref q1, .ref q2, .null, .int 0])), (q1, .inl (cy 12, 20, .inl (fun _ => 0))), (q2, .inl (cy 12, 20, .inl (fun _ => 0))), (q3, .inl (cy 12, 20, .inl (fun _ => 0)))] ++ ([] : va_W)) H := hP
  have hD : va_D A ([(h0, .inr (0, [.ref q1, .ref q2, .null, .int 0])), (q1, .inl (cy 12, 20, .inl (fun _ => 0))), (q2, .inl (cy 12, 20, .inl (fun _ => 0))), (q3, .inl (cy 12, 20, .inl (fun _ => 0)))] ++ ([] : va_W)) := hD
  refine W.widen (k := 3) (n := 60) (by decide) (by decide) ?_
  refine y_put (pc := 25) C hin hP hD hS ck_0 2 fl_X0_18 (by decide) rfl 0 rfl (.ref q3) rfl rfl (Nat.le_of_ble_eq_true rfl) dX0_init_25 (fun H locs hP hD hS => ?_)
  have hP : va_P D vwCl ([(h0, .inr (0, [.ref q1, .ref q2, .ref q3, .int 0])), (q1, .inl (cy 12, 20, .inl (fun _ => 0))), (q2, .inl (cy 12, 20, .inl (fun _ => 0))), (q3, .inl (cy 12, 20, .inl (fun _ => 0)))] ++ ([] : va_W)) H := hP
  have hD : va_D A ([(h0, .inr (0, [.ref q1, .ref q2, .ref q3, .int 0])), (q1, .inl (cy 12, 20, .inl (fun _ => 0))), (q2, .inl (cy 12, 20, .inl (fun _ => 0))), (q3, .inl (cy 12, 20, .inl (fun _ => 0)))] ++ ([] : va_W)) := hD
  obtain ⟨aa, haa⟩ : ∃ aa : List Nat → Nat, aa = (fun z => match z with | [] => 0 | [k] => ([q1, q2, q3] : List Nat).getD k 0 | i :: z' => ([] : List (List Nat → Nat)).getD i (fun _ => 0) z') := ⟨_, rfl⟩
  have hP9 : va_P D vwCl (cel_X0 cy h0 aa) H := by rw [haa]; exact hP
  have hD9 : va_D A (cel_X0 cy h0 aa) := by rw [haa]; exact hD
  exact W.vret C.1 C.2.1 hr (fun t ht hW => ⟨⟨aa, rfl, trivial, by rw [ht]; exact hP9, hD9⟩, hS.F ht⟩) hS.2.2 dX0_init_28 hlk
def tl_X7 (cy : Nat → ClassId) (h0 : Nat) (a : List Nat → Nat) : va_W := ((a [0]), .inl (cy 12, 3, .inl (fun _ => 0))) :: ([] : va_W)
def cel_X7 (cy : Nat → ClassId) (h0 : Nat) (a : List Nat → Nat) : va_W := (h0, .inr (7, [.int 0, .int 0, .int 0, .ref (a [0])])) :: tl_X7 cy h0 a
theorem mc_X7 : MC yX7_init cX7_init 1 0 := ⟨cd_X7_init, im_X7_init, in_X7, rfl, by decide +kernel, by decide⟩
set_option maxHeartbeats 4000000 in
set_option maxRecDepth 100000 in
theorem k_X7 (l : Launch) (D : va_G) (cy : Nat → ClassId) (h0 sz : Nat) : Met l yX7_init (Cond.code yX7_init cX7_init 1 none :: wsG) (rmI 1 1 3) (pcI cy D [] h0 (.inr (7, [.int 0, .int 0, .int 0, .null])) sz) (qI D (fun a => cel_X7 cy h0 a) (va_A [(h0, .inr (7, [.int 0, .int 0, .int 0, .null]))] sz)) 1 3 (va_A [(h0, .inr (7, [.int 0, .int 0, .int 0, .null]))] sz) := by
  refine Met.ofW (cc := cX7_init) (maxL := 1) (ret := none) (by decide) rfl ?_
  intro p e s m args below meth c s₁ B hml hv
  obtain ⟨rfl, hsz, hP, hK, hN⟩ := hv
  have hts := atoms_spec (ws := Cond.code yX7_init cX7_init 1 none :: wsG) B.pre
  have hown : s.vm.findClass RX7 = some m.cls := findClass_of_methodNamed B.named
  have hin : meth.name = "<init>" := (name_of_methodNamed B.named B.method).1
  have C : Cx p s m _ c cX7_init 1 RX7 D cy := ⟨B.exec, B.bytes, hml, hown, fun w hw => hts w (List.mem_cons_of_mem _ hw), hK⟩
  have hr := B.returns
  have hlk := B.notSynchronized
  have hR : RoL 1 (headSpec (Cond.code yX7_init cX7_init 1 none :: wsG) (rmI 1 1 3)).room := RoL_rmI _ _ _
  subst hsz
  have hD := (D1 (h0, .inr (7, [.int 0, .int 0, .int 0, .null]))).self (sz := s.heap.size)
  generalize hAe : va_A [(h0, .inr (7, [.int 0, .int 0, .int 0, .null]))] s.heap.size = A at hD ⊢
  have hA : ∀ q : Nat, s.heap.size ≤ q → A q := fun q h => by rw [← hAe]; exact Or.inr h
  have hS : va_S A s.heap s.heap [] := va_S.rf
  have hP : va_P D vwCl ([(h0, .inr (7, [.int 0, .int 0, .int 0, .null]))] ++ ([] : va_W)) s.heap := hP
  have hD : va_D A ([(h0, .inr (7, [.int 0, .int 0, .int 0, .null]))] ++ ([] : va_W)) := hD
  have hl := lv_entry ([.ref h0]) (n := 1) (Nat.le_of_ble_eq_true rfl)
  rw [lg_entry_eq]
  generalize (lg_sl ([.ref h0]) ++ List.replicate (1 - (lg_sl ([.ref h0])).length) Slot.unset).toArray = ls at hl ⊢
  have hl : lv_has ls 1 [(0, .ref h0)] := hl
  refine lv_aload_n (pc := 0) C.1 C.2.1 dX7_init_0 rfl (lv_at hl 0 rfl) ?_
  refine y_obj (pc := 1) C ml_X7_3 (hR.le (by decide)) hl.1 dX7_init_1 ?_
  refine lv_aload_n (pc := 4) C.1 C.2.1 dX7_init_4 rfl (lv_at hl 0 rfl) ?_
  refine lv_iconst (pc := 5) (v := 3) C.1 C.2.1 dX7_init_5 (by decide) ?_
  refine y_newi (pc := 6) C hP hD hS hA 3 (by decide) (by decide) (by decide) (by decide) (by decide) dX7_init_6 (fun q1 H hP hD hS => ?_)
  have hP : va_P D vwCl ([(h0, .inr (7, [.int 0, .int 0, .int 0, .null])), (q1, .inl (cy 12, 3, .inl (fun _ => 0)))] ++ ([] : va_W)) H := hP
  have hD : va_D A ([(h0, .inr (7, [.int 0, .int 0, .int 0, .null])), (q1, .inl (cy 12, 3, .inl (fun _ => 0)))] ++ ([] : va_W)) := hD
  refine W.widen (k := 1) (n := 3) (by decide) (by decide) ?_
  refine y_put (pc := 8) C hin hP hD hS ck_7 3 fl_X7_9 (by decide) rfl 0 rfl (.ref q1) rfl rfl (Nat.le_of_ble_eq_true rfl) dX7_init_8 (fun H locs hP hD hS => ?_)
  have hP : va_P D vwCl ([(h0, .inr (7, [.int 0, .int 0, .int 0, .ref q1])), (q1, .inl (cy 12, 3, .inl (fun _ => 0)))] ++ ([] : va_W)) H := hP
  have hD : va_D A ([(h0, .inr (7, [.int 0, .int 0, .int 0, .ref q1])), (q1, .inl (cy 12, 3, .inl (fun _ => 0)))] ++ ([] : va_W)) := hD
  obtain ⟨aa, haa⟩ : ∃ aa : List Nat → Nat, aa = (fun z => match z with | [] => 0 | [k] => ([q1] : List Nat).getD k 0 | i :: z' => ([] : List (List Nat → Nat)).getD i (fun _ => 0) z') := ⟨_, rfl⟩
  have hP9 : va_P D vwCl (cel_X7 cy h0 aa) H := by rw [haa]; exact hP
  have hD9 : va_D A (cel_X7 cy h0 aa) := by rw [haa]; exact hD
  exact W.vret C.1 C.2.1 hr (fun t ht hW => ⟨⟨aa, rfl, trivial, by rw [ht]; exact hP9, hD9⟩, hS.F ht⟩) hS.2.2 dX7_init_11 hlk
def tl_X2 (cy : Nat → ClassId) (h0 : Nat) (a : List Nat → Nat) : va_W := ([] : va_W)
def cel_X2 (cy : Nat → ClassId) (h0 : Nat) (a : List Nat → Nat) : va_W := (h0, .inr (2, [.int 0, .int 0, .int 0, .int 0, .int 0, .int 0])) :: tl_X2 cy h0 a
theorem mc_X2 : MC yX2_init cX2_init 1 0 := ⟨cd_X2_init, im_X2_init, in_X2, rfl, by decide +kernel, by decide⟩
set_option maxHeartbeats 4000000 in
set_option maxRecDepth 100000 in
theorem k_X2 (l : Launch) (D : va_G) (cy : Nat → ClassId) (h0 sz : Nat) : Met l yX2_init (Cond.code yX2_init cX2_init 1 none :: wsG) (rmI 1 0 0) (pcI cy D [] h0 (.inr (2, [.int 0, .int 0, .int 0, .int 0, .int 0, .int 0])) sz) (qI D (fun a => cel_X2 cy h0 a) (va_A [(h0, .inr (2, [.int 0, .int 0, .int 0, .int 0, .int 0, .int 0]))] sz)) 0 0 (va_A [(h0, .inr (2, [.int 0, .int 0, .int 0, .int 0, .int 0, .int 0]))] sz) := by
  refine Met.ofW (cc := cX2_init) (maxL := 1) (ret := none) (by decide) rfl ?_
  intro p e s m args below meth c s₁ B hml hv
  obtain ⟨rfl, hsz, hP, hK, hN⟩ := hv
  have hts := atoms_spec (ws := Cond.code yX2_init cX2_init 1 none :: wsG) B.pre
  have hown : s.vm.findClass RX2 = some m.cls := findClass_of_methodNamed B.named
  have hin : meth.name = "<init>" := (name_of_methodNamed B.named B.method).1
  have C : Cx p s m _ c cX2_init 1 RX2 D cy := ⟨B.exec, B.bytes, hml, hown, fun w hw => hts w (List.mem_cons_of_mem _ hw), hK⟩
  have hr := B.returns
  have hlk := B.notSynchronized
  have hR : RoL 1 (headSpec (Cond.code yX2_init cX2_init 1 none :: wsG) (rmI 1 0 0)).room := RoL_rmI _ _ _
  subst hsz
  have hD := (D1 (h0, .inr (2, [.int 0, .int 0, .int 0, .int 0, .int 0, .int 0]))).self (sz := s.heap.size)
  generalize hAe : va_A [(h0, .inr (2, [.int 0, .int 0, .int 0, .int 0, .int 0, .int 0]))] s.heap.size = A at hD ⊢
  have hA : ∀ q : Nat, s.heap.size ≤ q → A q := fun q h => by rw [← hAe]; exact Or.inr h
  have hS : va_S A s.heap s.heap [] := va_S.rf
  have hP : va_P D vwCl ([(h0, .inr (2, [.int 0, .int 0, .int 0, .int 0, .int 0, .int 0]))] ++ ([] : va_W)) s.heap := hP
  have hD : va_D A ([(h0, .inr (2, [.int 0, .int 0, .int 0, .int 0, .int 0, .int 0]))] ++ ([] : va_W)) := hD
  have hl := lv_entry ([.ref h0]) (n := 1) (Nat.le_of_ble_eq_true rfl)
  rw [lg_entry_eq]
  generalize (lg_sl ([.ref h0]) ++ List.replicate (1 - (lg_sl ([.ref h0])).length) Slot.unset).toArray = ls at hl ⊢
  have hl : lv_has ls 1 [(0, .ref h0)] := hl
  refine lv_aload_n (pc := 0) C.1 C.2.1 dX2_init_0 rfl (lv_at hl 0 rfl) ?_
  refine y_obj (pc := 1) C ml_X2_3 (hR.le (by decide)) hl.1 dX2_init_1 ?_
  obtain ⟨aa, haa⟩ : ∃ aa : List Nat → Nat, aa = (fun z => match z with | [] => 0 | [k] => ([] : List Nat).getD k 0 | i :: z' => ([] : List (List Nat → Nat)).getD i (fun _ => 0) z') := ⟨_, rfl⟩
  have hP9 : va_P D vwCl (cel_X2 cy h0 aa) s.heap := by rw [haa]; exact hP
  have hD9 : va_D A (cel_X2 cy h0 aa) := by rw [haa]; exact hD
  exact W.vret C.1 C.2.1 hr (fun t ht hW => ⟨⟨aa, rfl, trivial, by rw [ht]; exact hP9, hD9⟩, hS.F ht⟩) hS.2.2 dX2_init_4 hlk
def tl_X1 (cy : Nat → ClassId) (h0 : Nat) (a : List Nat → Nat) : va_W := ([] : va_W)
def cel_X1 (cy : Nat → ClassId) (h0 : Nat) (a : List Nat → Nat) : va_W := (h0, .inr (1, [.int 0, .int 0, .int 0, .int 0, .int 0])) :: tl_X1 cy h0 a
theorem mc_X1 : MC yX1_init cX1_init 1 0 := ⟨cd_X1_init, im_X1_init, in_X1, rfl, by decide +kernel, by decide⟩
set_option maxHeartbeats 4000000 in
set_option maxRecDepth 100000 in
theorem k_X1 (l : Launch) (D : va_G) (cy : Nat → ClassId) (h0 sz : Nat) : Met l yX1_init (Cond.code yX1_init cX1_init 1 none :: wsG) (rmI 1 0 0) (pcI cy D [] h0 (.inr (1, [.int 0, .int 0, .int 0, .int 0, .int 0])) sz) (qI D (fun a => cel_X1 cy h0 a) (va_A [(h0, .inr (1, [.int 0, .int 0, .int 0, .int 0, .int 0]))] sz)) 0 0 (va_A [(h0, .inr (1, [.int 0, .int 0, .int 0, .int 0, .int 0]))] sz) := by
  refine Met.ofW (cc := cX1_init) (maxL := 1) (ret := none) (by decide) rfl ?_
  intro p e s m args below meth c s₁ B hml hv
  obtain ⟨rfl, hsz, hP, hK, hN⟩ := hv
  have hts := atoms_spec (ws := Cond.code yX1_init cX1_init 1 none :: wsG) B.pre
  have hown : s.vm.findClass RX1 = some m.cls := findClass_of_methodNamed B.named
  have hin : meth.name = "<init>" := (name_of_methodNamed B.named B.method).1
  have C : Cx p s m _ c cX1_init 1 RX1 D cy := ⟨B.exec, B.bytes, hml, hown, fun w hw => hts w (List.mem_cons_of_mem _ hw), hK⟩
  have hr := B.returns
  have hlk := B.notSynchronized
  have hR : RoL 1 (headSpec (Cond.code yX1_init cX1_init 1 none :: wsG) (rmI 1 0 0)).room := RoL_rmI _ _ _
  subst hsz
  have hD := (D1 (h0, .inr (1, [.int 0, .int 0, .int 0, .int 0, .int 0]))).self (sz := s.heap.size)
  generalize hAe : va_A [(h0, .inr (1, [.int 0, .int 0, .int 0, .int 0, .int 0]))] s.heap.size = A at hD ⊢
  have hA : ∀ q : Nat, s.heap.size ≤ q → A q := fun q h => by rw [← hAe]; exact Or.inr h
  have hS : va_S A s.heap s.heap [] := va_S.rf
  have hP : va_P D vwCl ([(h0, .inr (1, [.int 0, .int 0, .int 0, .int 0, .int 0]))] ++ ([] : va_W)) s.heap := hP
  have hD : va_D A ([(h0, .inr (1, [.int 0, .int 0, .int 0, .int 0, .int 0]))] ++ ([] : va_W)) := hD
  have hl := lv_entry ([.ref h0]) (n := 1) (Nat.le_of_ble_eq_true rfl)
  rw [lg_entry_eq]
  generalize (lg_sl ([.ref h0]) ++ List.replicate (1 - (lg_sl ([.ref h0])).length) Slot.unset).toArray = ls at hl ⊢
  have hl : lv_has ls 1 [(0, .ref h0)] := hl
  refine lv_aload_n (pc := 0) C.1 C.2.1 dX1_init_0 rfl (lv_at hl 0 rfl) ?_
  refine y_obj (pc := 1) C ml_X1_3 (hR.le (by decide)) hl.1 dX1_init_1 ?_
  obtain ⟨aa, haa⟩ : ∃ aa : List Nat → Nat, aa = (fun z => match z with | [] => 0 | [k] => ([] : List Nat).getD k 0 | i :: z' => ([] : List (List Nat → Nat)).getD i (fun _ => 0) z') := ⟨_, rfl⟩
  have hP9 : va_P D vwCl (cel_X1 cy h0 aa) s.heap := by rw [haa]; exact hP
  have hD9 : va_D A (cel_X1 cy h0 aa) := by rw [haa]; exact hD
  exact W.vret C.1 C.2.1 hr (fun t ht hW => ⟨⟨aa, rfl, trivial, by rw [ht]; exact hP9, hD9⟩, hS.F ht⟩) hS.2.2 dX1_init_4 hlk
def tl_X8 (cy : Nat → ClassId) (h0 : Nat) (a : List Nat → Nat) : va_W := ((a [0]), .inl (cy 12, 4, .inl (fun _ => 0))) :: ((a [1]), .inl (cy 12, 4, .inl (fun _ => 0))) :: ((a [2]), .inl (cy 12, 4, .inl (fun _ => 0))) :: ([] : va_W)
def cel_X8 (cy : Nat → ClassId) (h0 : Nat) (a : List Nat → Nat) : va_W := (h0, .inr (8, [.int 0, .int 0, .int 0, .int 0, .ref (a [0]), .ref (a [1]), .ref (a [2])])) :: tl_X8 cy h0 a
theorem mc_X8 : MC yX8_init cX8_init 1 0 := ⟨cd_X8_init, im_X8_init, in_X8, rfl, by decide +kernel, by decide⟩
set_option maxHeartbeats 4000000 in
set_option maxRecDepth 100000 in
theorem k_X8 (l : Launch) (D : va_G) (cy : Nat → ClassId) (h0 sz : Nat) : Met l yX8_init (Cond.code yX8_init cX8_init 1 none :: wsG) (rmI 1 3 12) (pcI cy D [] h0 (.inr (8, [.int 0, .int 0, .int 0, .int 0, .null, .null, .null])) sz) (qI D (fun a => cel_X8 cy h0 a) (va_A [(h0, .inr (8, [.int 0, .int 0, .int 0, .int 0, .null, .null, .null]))] sz)) 3 12 (va_A [(h0, .inr (8, [.int 0, .int 0, .int 0, .int 0, .null, .null, .null]))] sz) := by
  refine Met.ofW (cc := cX8_init) (maxL := 1) (ret := none) (by decide) rfl ?_
  intro p e s m args below meth c s₁ B hml hv
  obtain ⟨rfl, hsz, hP, hK, hN⟩ := hv
  have hts := atoms_spec (ws := Cond.code yX8_init cX8_init 1 none :: wsG) B.pre
  have hown : s.vm.findClass RX8 = some m.cls := findClass_of_methodNamed B.named
  have hin : meth.name = "<init>" := (name_of_methodNamed B.named B.method).1
  have C : Cx p s m _ c cX8_init 1 RX8 D cy := ⟨B.exec, B.bytes, hml, hown, fun w hw => hts w (List.mem_cons_of_mem _ hw), hK⟩
  have hr := B.returns
  have hlk := B.notSynchronized
  have hR : RoL 1 (headSpec (Cond.code yX8_init cX8_init 1 none :: wsG) (rmI 1 3 12)).room := RoL_rmI _ _ _
  subst hsz
  have hD := (D1 (h0, .inr (8, [.int 0, .int 0, .int 0, .int 0, .null, .null, .null]))).self (sz := s.heap.size)
  generalize hAe : va_A [(h0, .inr (8, [.int 0, .int 0, .int 0, .int 0, .null, .null, .null]))] s.heap.size = A at hD ⊢
  have hA : ∀ q : Nat, s.heap.size ≤ q → A q := fun q h => by rw [← hAe]; exact Or.inr h
  have hS : va_S A s.heap s.heap [] := va_S.rf
  have hP : va_P D vwCl ([(h0, .inr (8, [.int 0, .int 0, .int 0, .int 0, .null, .null, .null]))] ++ ([] : va_W)) s.heap := hP
  have hD : va_D A ([(h0, .inr (8, [.int 0, .int 0, .int 0, .int 0, .null, .null, .null]))] ++ ([] : va_W)) := hD
  have hl := lv_entry ([.ref h0]) (n := 1) (Nat.le_of_ble_eq_true rfl)
  rw [lg_entry_eq]
  generalize (lg_sl ([.ref h0]) ++ List.replicate (1 - (lg_sl ([.ref h0])).length) Slot.unset).toArray = ls at hl ⊢
  have hl : lv_has ls 1 [(0, .ref h0)] := hl
  refine lv_aload_n (pc := 0) C.1 C.2.1 dX8_init_0 rfl (lv_at hl 0 rfl) ?_
  refine y_obj (pc := 1) C ml_X8_3 (hR.le (by decide)) hl.1 dX8_init_1 ?_
  refine lv_aload_n (pc := 4) C.1 C.2.1 dX8_init_4 rfl (lv_at hl 0 rfl) ?_
  refine lv_iconst (pc := 5) (v := 4) C.1 C.2.1 dX8_init_5 (by decide) ?_
  refine y_newi (pc := 6) C hP hD hS hA 4 (by decide) (by decide) (by decide) (by decide) (by decide) dX8_init_6 (fun q1 H hP hD hS => ?_)
  have hP : va_P D vwCl ([(h0, .inr (8, [.int 0, .int 0, .int 0, .int 0, .null, .null, .null])), (q1, .inl (cy 12, 4, .inl (fun _ => 0)))] ++ ([] : va_W)) H := hP
  have hD : va_D A ([(h0, .inr (8, [.int 0, .int 0, .int 0, .int 0, .null, .null, .null])), (q1, .inl (cy 12, 4, .inl (fun _ => 0)))] ++ ([] : va_W)) := hD
  refine W.widen (k := 1) (n := 4) (by decide) (by decide) ?_
  refine y_put (pc := 8) C hin hP hD hS ck_8 4 fl_X8_9 (by decide) rfl 0 rfl (.ref q1) rfl rfl (Nat.le_of_ble_eq_true rfl) dX8_init_8 (fun H locs hP hD hS => ?_)
  have hP : va_P D vwCl ([(h0, .inr (8, [.int 0, .int 0, .int 0, .int 0, .ref q1, .null, .null])), (q1, .inl (cy 12, 4, .inl (fun _ => 0)))] ++ ([] : va_W)) H := hP
  have hD : va_D A ([(h0, .inr (8, [.int 0, .int 0, .int 0, .int 0, .ref q1, .null, .null])), (q1, .inl (cy 12, 4, .inl (fun _ => 0)))] ++ ([] : va_W)) := hD
  refine lv_aload_n (pc := 11) C.1 C.2.1 dX8_init_11 rfl (lv_at hl 0 rfl) ?_
  refine lv_iconst (pc := 12) (v := 4) C.1 C.2.1 dX8_init_12 (by decide) ?_
  refine y_newi (pc := 13) C hP hD hS hA 4 (by decide) (by decide) (by decide) (by decide) (by decide) dX8_init_13 (fun q2 H hP hD hS => ?_)
  have hP : va_P D vwCl ([(h0, .inr (8, [.int 0, .int 0, .int 0, .int 0, .ref q1, .null, .null])), (q1, .inl (cy 12, 4, .inl (fun _ => 0))), (q2, .inl (cy 12, 4, .inl (fun _ => 0)))] ++ ([] : va_W)) H := hP
  have hD : va_D A ([(h0, .inr (8, [.int 0, .int 0, .int 0, .int 0, .ref q1, .null, .null])), (q1, .inl (cy 12, 4, .inl (fun _ => 0))), (q2, .inl (cy 12, 4, .inl (fun _ => 0)))] ++ ([] : va_W)) := hD
  refine W.widen (k := 2) (n := 8) (by decide) (by decide) ?_
  refine y_put (pc := 15) C hin hP hD hS ck_8 5 fl_X8_15 (by decide) rfl 0 rfl (.ref q2) rfl rfl (Nat.le_of_ble_eq_true rfl) dX8_init_15 (fun H locs hP hD hS => ?_)
  have hP : va_P D vwCl ([(h0, .inr (8, [.int 0, .int 0, .int 0, .int 0, .ref q1, .ref q2, .null])), (q1, .inl (cy 12, 4, .inl (fun _ => 0))), (q2, .inl (cy 12, 4, .inl (fun _ => 0)))] ++ ([] : va_W)) H := hP
  have hD : va_D A ([(h0, .inr (8, [.int 0, .int 0, .int 0, .int 0, .ref q1, .ref q2, .null])), (q1, .inl (cy 12, 4, .inl (fun _ => 0))), (q2, .inl (cy 12, 4, .inl (fun _ => 0)))] ++ ([] : va_W)) := hD
  refine lv_aload_n (pc := 18) C.1 C.2.1 dX8_init_18 rfl (lv_at hl 0 rfl) ?_
  refine lv_iconst (pc := 19) (v := 4) C.1 C.2.1 dX8_init_19 (by decide) ?_
  refine y_newi (pc := 20) C hP hD hS hA 4 (by decide) (by decide) (by decide) (by decide) (by decide) dX8_init_20 (fun q3 H hP hD hS => ?_)
  have hP : va_P D vwCl ([(h0, .inr (8, [.int 0, .int 0, .int 0, .int 0, .ref q1, .ref q2, .null])), (q1, .inl (cy 12, 4, .inl (fun _ => 0))), (q2, .inl (cy 12, 4, .inl (fun _ => 0))), (q3, .inl (cy 12, 4, .inl (fun _ => 0)))] ++ ([] : va_W)) H := hP
  have hD : va_D A ([(h0, .inr (8, [.int 0, .int 0, .int 0, .int 0, .ref q1, .ref q2, .null])), (q1, .inl (cy 12, 4, .inl (fun _ => 0))), (q2, .inl (cy 12, 4, .inl (fun _ => 0))), (q3, .inl (cy 12, 4, .inl (fun _ => 0)))] ++ ([] : va_W)) := hD
  refine W.widen (k := 3) (n := 12) (by decide) (by decide) ?_
  refine y_put (pc := 22) C hin hP hD hS ck_8 6 fl_X8_18 (by decide) rfl 0 rfl (.ref q3) rfl rfl (Nat.le_of_ble_eq_true rfl) dX8_init_22 (fun H locs hP hD hS => ?_)
  have hP : va_P D vwCl ([(h0, .inr (8, [.int 0, .int 0, .int 0, .int 0, .ref q1, .ref q2, .ref q3])), (q1, .inl (cy 12, 4, .inl (fun _ => 0))), (q2, .inl (cy 12, 4, .inl (fun _ => 0))), (q3, .inl (cy 12, 4, .inl (fun _ => 0)))] ++ ([] : va_W)) H := hP
  have hD : va_D A ([(h0, .inr (8, [.int 0, .int 0, .int 0, .int 0, .ref q1, .ref q2, .ref q3])), (q1, .inl (cy 12, 4, .inl (fun _ => 0))), (q2, .inl (cy 12, 4, .inl (fun _ => 0))), (q3, .inl (cy 12, 4, .inl (fun _ => 0)))] ++ ([] : va_W)) := hD
  obtain ⟨aa, haa⟩ : ∃ aa : List Nat → Nat, aa = (fun z => match z with | [] => 0 | [k] => ([q1, q2, q3] : List Nat).getD k 0 | i :: z' => ([] : List (List Nat → Nat)).getD i (fun _ => 0) z') := ⟨_, rfl⟩
  have hP9 : va_P D vwCl (cel_X8 cy h0 aa) H := by rw [haa]; exact hP
  have hD9 : va_D A (cel_X8 cy h0 aa) := by rw [haa]; exact hD
  exact W.vret C.1 C.2.1 hr (fun t ht hW => ⟨⟨aa, rfl, trivial, by rw [ht]; exact hP9, hD9⟩, hS.F ht⟩) hS.2.2 dX8_init_25 hlk
def tl_X5 (cy : Nat → ClassId) (h0 : Nat) (c1 : Nat) (a : List Nat → Nat) : va_W := ((a [6]), .inl (cy 18, 6, .inr (.inr (.inr (.inr (fun j => some (a [0 + j]))))))) :: ((a [0]), .inl (cy 12, 6, .inl (fun _ => 0))) :: ((a [1]), .inl (cy 12, 6, .inl (fun _ => 0))) :: ((a [2]), .inl (cy 12, 6, .inl (fun _ => 0))) :: ((a [3]), .inl (cy 12, 6, .inl (fun _ => 0))) :: ((a [4]), .inl (cy 12, 6, .inl (fun _ => 0))) :: ((a [5]), .inl (cy 12, 6, .inl (fun _ => 0))) :: ((a [7]), .inl (cy 12, 6, .inl (fun _ => 0))) :: ((a [8]), .inl (cy 12, 6, .inl (fun _ => 0))) :: ([] : va_W)
def cel_X5 (cy : Nat → ClassId) (h0 : Nat) (c1 : Nat) (a : List Nat → Nat) : va_W := (h0, .inr (5, [.ref c1, .ref (a [6]), .ref (a [7]), .ref (a [8]), .int 0, .int 0, .int 0])) :: tl_X5 cy h0 c1 a
theorem mc_X5 : MC yX5_init cX5_init 2 1 := ⟨cd_X5_init, im_X5_init, in_X5, rfl, by decide +kernel, by decide⟩
set_option maxHeartbeats 4000000 in
set_option maxRecDepth 100000 in
theorem k_X5 (l : Launch) (D : va_G) (cy : Nat → ClassId) (h0 sz : Nat) (c1 : Nat) : Met l yX5_init (Cond.code yX5_init cX5_init 2 none :: wsG) (rmI 1 9 54) (pcI cy D [.ref c1] h0 (.inr (5, [.null, .null, .null, .null, .int 0, .int 0, .int 0])) sz) (qI D (fun a => cel_X5 cy h0 c1 a) (va_A [(h0, .inr (5, [.null, .null, .null, .null, .int 0, .int 0, .int 0]))] sz)) 9 54 (va_A [(h0, .inr (5, [.null, .null, .null, .null, .int 0, .int 0, .int 0]))] sz) := by
  refine Met.ofW (cc := cX5_init) (maxL := 2) (ret := none) (by decide) rfl ?_
  intro p e s m args below meth c s₁ B hml hv
  obtain ⟨rfl, hsz, hP, hK, hN⟩ := hv
  have hts := atoms_spec (ws := Cond.code yX5_init cX5_init 2 none :: wsG) B.pre
  have hown : s.vm.findClass RX5 = some m.cls := findClass_of_methodNamed B.named
  have hin : meth.name = "<init>" := (name_of_methodNamed B.named B.method).1
  have C : Cx p s m _ c cX5_init 2 RX5 D cy := ⟨B.exec, B.bytes, hml, hown, fun w hw => hts w (List.mem_cons_of_mem _ hw), hK⟩
  have hr := B.returns
  have hlk := B.notSynchronized
  have hR : RoL 1 (headSpec (Cond.code yX5_init cX5_init 2 none :: wsG) (rmI 1 9 54)).room := RoL_rmI _ _ _
  subst hsz
  have hD := (D1 (h0, .inr (5, [.null, .null, .null, .null, .int 0, .int 0, .int 0]))).self (sz := s.heap.size)
  generalize hAe : va_A [(h0, .inr (5, [.null, .null, .null, .null, .int 0, .int 0, .int 0]))] s.heap.size = A at hD ⊢
  have hA : ∀ q : Nat, s.heap.size ≤ q → A q := fun q h => by rw [← hAe]; exact Or.inr h
  have hS : va_S A s.heap s.heap [] := va_S.rf
  have hP : va_P D vwCl ([(h0, .inr (5, [.null, .null, .null, .null, .int 0, .int 0, .int 0]))] ++ ([] : va_W)) s.heap := hP
  have hD : va_D A ([(h0, .inr (5, [.null, .null, .null, .null, .int 0, .int 0, .int 0]))] ++ ([] : va_W)) := hD
  have hl := lv_entry ([.ref h0, .ref c1]) (n := 2) (Nat.le_of_ble_eq_true rfl)
  rw [lg_entry_eq]
  generalize (lg_sl ([.ref h0, .ref c1]) ++ List.replicate (2 - (lg_sl ([.ref h0, .ref c1])).length) Slot.unset).toArray = ls at hl ⊢
  have hl : lv_has ls 2 [(0, .ref h0), (1, .ref c1)] := hl
  refine lv_aload_n (pc := 0) C.1 C.2.1 dX5_init_0 rfl (lv_at hl 0 rfl) ?_
  refine y_obj (pc := 1) C ml_X5_3 (hR.le (by decide)) hl.1 dX5_init_1 ?_
  refine lv_aload_n (pc := 4) C.1 C.2.1 dX5_init_4 rfl (lv_at hl 0 rfl) ?_
  refine lv_bipush (pc := 5) (v := 6) C.1 C.2.1 dX5_init_5 (by decide) ?_
  refine lv_bipush (pc := 7) (v := 6) C.1 C.2.1 dX5_init_7 (by decide) ?_
  refine y_mna (pc := 9) C hN hP hD hS hA kl_X5_9 (by decide) (by decide) dX5_init_9 (fun q1 H hP hD hS => ?_)
  have hP : va_P D vwCl ([(h0, .inr (5, [.null, .null, .null, .null, .int 0, .int 0, .int 0])), (q1, .inl (cy 18, 6, .inr (.inr (.inr (.inr (fun j => some (q1 + 1 + j))))))), ((q1 + 1 + 0), .inl (cy 12, 6, .inl (fun _ => 0))), ((q1 + 1 + 1), .inl (cy 12, 6, .inl (fun _ => 0))), ((q1 + 1 + 2), .inl (cy 12, 6, .inl (fun _ => 0))), ((q1 + 1 + 3), .inl (cy 12, 6, .inl (fun _ => 0))), ((q1 + 1 + 4), .inl (cy 12, 6, .inl (fun _ => 0))), ((q1 + 1 + 5), .inl (cy 12, 6, .inl (fun _ => 0)))] ++ ([] : va_W)) H := hP
  have hD : va_D A ([(h0, .inr (5, [.null, .null, .null, .null, .int 0, .int 0, .int 0])), (q1, .inl (cy 18, 6, .inr (.inr (.inr (.inr (fun j => some (q1 + 1 + j))))))), ((q1 + 1 + 0), .inl (cy 12, 6, .inl (fun _ => 0))), ((q1 + 1 + 1), .inl (cy 12, 6, .inl (fun _ => 0))), ((q1 + 1 + 2), .inl (cy 12, 6, .inl (fun _ => 0))), ((q1 + 1 + 3), .inl (cy 12, 6, .inl (fun _ => 0))), ((q1 + 1 + 4), .inl (cy 12, 6, .inl (fun _ => 0))), ((q1 + 1 + 5), .inl (cy 12, 6, .inl (fun _ => 0)))] ++ ([] : va_W)) := hD
  refine W.widen (k := 7) (n := 42) (by decide) (by decide) ?_
  refine y_put (pc := 13) C hin hP hD hS ck_5 1 fl_X5_11 (by decide) rfl 0 rfl (.ref q1) rfl rfl (Nat.le_of_ble_eq_true rfl) dX5_init_13 (fun H locs hP hD hS => ?_)
  have hP : va_P D vwCl ([(h0, .inr (5, [.null, .ref q1, .null, .null, .int 0, .int 0, .int 0])), (q1, .inl (cy 18, 6, .inr (.inr (.inr (.inr (fun j => some (q1 + 1 + j))))))), ((q1 + 1 + 0), .inl (cy 12, 6, .inl (fun _ => 0))), ((q1 + 1 + 1), .inl (cy 12, 6, .inl (fun _ => 0))), ((q1 + 1 + 2), .inl (cy 12, 6, .inl (fun _ => 0))), ((q1 + 1 + 3), .inl (cy 12, 6, .inl (fun _ => 0))), ((q1 + 1 + 4), .inl (cy 12, 6, .inl (fun _ => 0))), ((q1 + 1 + 5), .inl (cy 12, 6, .inl (fun _ => 0)))] ++ ([] : va_W)) H := hP
  have hD : va_D A ([(h0, .inr (5, [.null, .ref q1, .null, .null, .int 0, .int 0, .int 0])), (q1, .inl (cy 18, 6, .inr (.inr (.inr (.inr (fun j => some (q1 + 1 + j))))))), ((q1 + 1 + 0), .inl (cy 12, 6, .inl (fun _ => 0))), ((q1 + 1 + 1), .inl (cy 12, 6, .inl (fun _ => 0))), ((q1 + 1 + 2), .inl (cy 12, 6, .inl (fun _ => 0))), ((q1 + 1 + 3), .inl (cy 12, 6, .inl (fun _ => 0))), ((q1 + 1 + 4), .inl (cy 12, 6, .inl (fun _ => 0))), ((q1 + 1 + 5), .inl (cy 12, 6, .inl (fun _ => 0)))] ++ ([] : va_W)) := hD
  refine lv_aload_n (pc := 16) C.1 C.2.1 dX5_init_16 rfl (lv_at hl 0 rfl) ?_
  refine lv_bipush (pc := 17) (v := 6) C.1 C.2.1 dX5_init_17 (by decide) ?_
  refine y_newi (pc := 19) C hP hD hS hA 6 (by decide) (by decide) (by decide) (by decide) (by decide) dX5_init_19 (fun q2 H hP hD hS => ?_)
  have hP : va_P D vwCl ([(h0, .inr (5, [.null, .ref q1, .null, .null, .int 0, .int 0, .int 0])), (q1, .inl (cy 18, 6, .inr (.inr (.inr (.inr (fun j => some (q1 + 1 + j))))))), ((q1 + 1 + 0), .inl (cy 12, 6, .inl (fun _ => 0))), ((q1 + 1 + 1), .inl (cy 12, 6, .inl (fun _ => 0))), ((q1 + 1 + 2), .inl (cy 12, 6, .inl (fun _ => 0))), ((q1 + 1 + 3), .inl (cy 12, 6, .inl (fun _ => 0))), ((q1 + 1 + 4), .inl (cy 12, 6, .inl (fun _ => 0))), ((q1 + 1 + 5), .inl (cy 12, 6, .inl (fun _ => 0))), (q2, .inl (cy 12, 6, .inl (fun _ => 0)))] ++ ([] : va_W)) H := hP
  have hD : va_D A ([(h0, .inr (5, [.null, .ref q1, .null, .null, .int 0, .int 0, .int 0])), (q1, .inl (cy 18, 6, .inr (.inr (.inr (.inr (fun j => some (q1 + 1 + j))))))), ((q1 + 1 + 0), .inl (cy 12, 6, .inl (fun _ => 0))), ((q1 + 1 + 1), .inl (cy 12, 6, .inl (fun _ => 0))), ((q1 + 1 + 2), .inl (cy 12, 6, .inl (fun _ => 0))), ((q1 + 1 + 3), .inl (cy 12, 6, .inl (fun _ => 0))), ((q1 + 1 + 4), .inl (cy 12, 6, .inl (fun _ => 0))), ((q1 + 1 + 5), .inl (cy 12, 6, .inl (fun _ => 0))), (q2, .inl (cy 12, 6, .inl (fun _ => 0)))] ++ ([] : va_W)) := hD
  refine W.widen (k := 8) (n := 48) (by decide) (by decide) ?_
  refine y_put (pc := 21) C hin hP hD hS ck_5 2 fl_X5_16 (by decide) rfl 0 rfl (.ref q2) rfl rfl (Nat.le_of_ble_eq_true rfl) dX5_init_21 (fun H locs hP hD hS => ?_)
  have hP : va_P D vwCl ([(h0, .inr (5, [.null, .ref q1, .ref q2, .null, .int 0, .int 0, .int 0])), (q1, .inl (cy 18, 6, .inr (.inr (.inr (.inr (fun j => some (q1 + 1 + j))))))), ((q1 + 1 + 0), .inl (cy 12, 6, .inl (fun _ => 0))), ((q1 + 1 + 1), .inl (cy 12, 6, .inl (fun _ => 0))), ((q1 + 1 + 2), .inl (cy 12, 6, .inl (fun _ => 0))), ((q1 + 1 + 3), .inl (cy 12, 6, .inl (fun _ => 0))), ((q1 + 1 + 4), .inl (cy 12, 6, .inl (fun _ => 0))), ((q1 + 1 + 5), .inl (cy 12, 6, .inl (fun _ => 0))), (q2, .inl (cy 12, 6, .inl (fun _ => 0)))] ++ ([] : va_W)) H := hP
  have hD : va_D A ([(h0, .inr (5, [.null, .ref q1, .ref q2, .null, .int 0, .int 0, .int 0])), (q1, .inl (cy 18, 6, .inr (.inr (.inr (.inr (fun j => some (q1 + 1 + j))))))), ((q1 + 1 + 0), .inl (cy 12, 6, .inl (fun _ => 0))), ((q1 + 1 + 1), .inl (cy 12, 6, .inl (fun _ => 0))), ((q1 + 1 + 2), .inl (cy 12, 6, .inl (fun _ => 0))), ((q1 + 1 + 3), .inl (cy 12, 6, .inl (fun _ => 0))), ((q1 + 1 + 4), .inl (cy 12, 6, .inl (fun _ => 0))), ((q1 + 1 + 5), .inl (cy 12, 6, .inl (fun _ => 0))), (q2, .inl (cy 12, 6, .inl (fun _ => 0)))] ++ ([] : va_W)) := hD
  refine lv_aload_n (pc := 24) C.1 C.2.1 dX5_init_24 rfl (lv_at hl 0 rfl) ?_
  refine lv_bipush (pc := 25) (v := 6) C.1 C.2.1 dX5_init_25 (by decide) ?_
  refine y_newi (pc := 27) C hP hD hS hA 6 (by decide) (by decide) (by decide) (by decide) (by decide) dX5_init_27 (fun q3 H hP hD hS => ?_)
  have hP : va_P D vwCl ([(h0, .inr (5, [.null, .ref q1, .ref q2, .null, .int 0, .int 0, .int 0])), (q1, .inl (cy 18, 6, .inr (.inr (.inr (.inr (fun j => some (q1 + 1 + j))))))), ((q1 + 1 + 0), .inl (cy 12, 6, .inl (fun _ => 0))), ((q1 + 1 + 1), .inl (cy 12, 6, .inl (fun _ => 0))), ((q1 + 1 + 2), .inl (cy 12, 6, .inl (fun _ => 0))), ((q1 + 1 + 3), .inl (cy 12, 6, .inl (fun _ => 0))), ((q1 + 1 + 4), .inl (cy 12, 6, .inl (fun _ => 0))), ((q1 + 1 + 5), .inl (cy 12, 6, .inl (fun _ => 0))), (q2, .inl (cy 12, 6, .inl (fun _ => 0))), (q3, .inl (cy 12, 6, .inl (fun _ => 0)))] ++ ([] : va_W)) H := hP
  have hD : va_D A ([(h0, .inr (5, [.null, .ref q1, .ref q2, .null, .int 0, .int 0, .int 0])), (q1, .inl (cy 18, 6, .inr (.inr (.inr (.inr (fun j => some (q1 + 1 + j))))))), ((q1 + 1 + 0), .inl (cy 12, 6, .inl (fun _ => 0))), ((q1 + 1 + 1), .inl (cy 12, 6, .inl (fun _ => 0))), ((q1 + 1 + 2), .inl (cy 12, 6, .inl (fun _ => 0))), ((q1 + 1 + 3), .inl (cy 12, 6, .inl (fun _ => 0))), ((q1 + 1 + 4), .inl (cy 12, 6, .inl (fun _ => 0))), ((q1 + 1 + 5), .inl (cy 12, 6, .inl (fun _ => 0))), (q2, .inl (cy 12, 6, .inl (fun _ => 0))), (q3, .inl (cy 12, 6, .inl (fun _ => 0)))] ++ ([] : va_W)) := hD
  refine W.widen (k := 9) (n := 54) (by decide) (by decide) ?_
  refine y_put (pc := 29) C hin hP hD hS ck_5 3 fl_X5_20 (by decide) rfl 0 rfl (.ref q3) rfl rfl (Nat.le_of_ble_eq_true rfl) dX5_init_29 (fun H locs hP hD hS => ?_)
  have hP : va_P D vwCl ([(h0, .inr (5, [.null, .ref q1, .ref q2, .ref q3, .int 0, .int 0, .int 0])), (q1, .inl (cy 18, 6, .inr (.inr (.inr (.inr (fun j => some (q1 + 1 + j))))))), ((q1 + 1 + 0), .inl (cy 12, 6, .inl (fun _ => 0))), ((q1 + 1 + 1), .inl (cy 12, 6, .inl (fun _ => 0))), ((q1 + 1 + 2), .inl (cy 12, 6, .inl (fun _ => 0))), ((q1 + 1 + 3), .inl (cy 12, 6, .inl (fun _ => 0))), ((q1 + 1 + 4), .inl (cy 12, 6, .inl (fun _ => 0))), ((q1 + 1 + 5), .inl (cy 12, 6, .inl (fun _ => 0))), (q2, .inl (cy 12, 6, .inl (fun _ => 0))), (q3, .inl (cy 12, 6, .inl (fun _ => 0)))] ++ ([] : va_W)) H := hP
  have hD : va_D A ([(h0, .inr (5, [.null, .ref q1, .ref q2, .ref q3, .int 0, .int 0, .int 0])), (q1, .inl (cy 18, 6, .inr (.inr (.inr (.inr (fun j => some (q1 + 1 + j))))))), ((q1 + 1 + 0), .inl (cy 12, 6, .inl (fun _ => 0))), ((q1 + 1 + 1), .inl (cy 12, 6, .inl (fun _ => 0))), ((q1 + 1 + 2), .inl (cy 12, 6, .inl (fun _ => 0))), ((q1 + 1 + 3), .inl (cy 12, 6, .inl (fun _ => 0))), ((q1 + 1 + 4), .inl (cy 12, 6, .inl (fun _ => 0))), ((q1 + 1 + 5), .inl (cy 12, 6, .inl (fun _ => 0))), (q2, .inl (cy 12, 6, .inl (fun _ => 0))), (q3, .inl (cy 12, 6, .inl (fun _ => 0)))] ++ ([] : va_W)) := hD
  refine lv_aload_n (pc := 32) C.1 C.2.1 dX5_init_32 rfl (lv_at hl 0 rfl) ?_
  refine lv_aload_n (pc := 33) C.1 C.2.1 dX5_init_33 rfl (lv_at hl 1 rfl) ?_
  refine y_put (pc := 34) C hin hP hD hS ck_5 0 fl_X5_23 (by decide) rfl 0 rfl (.ref c1) rfl rfl (Nat.le_of_ble_eq_true rfl) dX5_init_34 (fun H locs hP hD hS => ?_)
  have hP : va_P D vwCl ([(h0, .inr (5, [.ref c1, .ref q1, .ref q2, .ref q3, .int 0, .int 0, .int 0])), (q1, .inl (cy 18, 6, .inr (.inr (.inr (.inr (fun j => some (q1 + 1 + j))))))), ((q1 + 1 + 0), .inl (cy 12, 6, .inl (fun _ => 0))), ((q1 + 1 + 1), .inl (cy 12, 6, .inl (fun _ => 0))), ((q1 + 1 + 2), .inl (cy 12, 6, .inl (fun _ => 0))), ((q1 + 1 + 3), .inl (cy 12, 6, .inl (fun _ => 0))), ((q1 + 1 + 4), .inl (cy 12, 6, .inl (fun _ => 0))), ((q1 + 1 + 5), .inl (cy 12, 6, .inl (fun _ => 0))), (q2, .inl (cy 12, 6, .inl (fun _ => 0))), (q3, .inl (cy 12, 6, .inl (fun _ => 0)))] ++ ([] : va_W)) H := hP
  have hD : va_D A ([(h0, .inr (5, [.ref c1, .ref q1, .ref q2, .ref q3, .int 0, .int 0, .int 0])), (q1, .inl (cy 18, 6, .inr (.inr (.inr (.inr (fun j => some (q1 + 1 + j))))))), ((q1 + 1 + 0), .inl (cy 12, 6, .inl (fun _ => 0))), ((q1 + 1 + 1), .inl (cy 12, 6, .inl (fun _ => 0))), ((q1 + 1 + 2), .inl (cy 12, 6, .inl (fun _ => 0))), ((q1 + 1 + 3), .inl (cy 12, 6, .inl (fun _ => 0))), ((q1 + 1 + 4), .inl (cy 12, 6, .inl (fun _ => 0))), ((q1 + 1 + 5), .inl (cy 12, 6, .inl (fun _ => 0))), (q2, .inl (cy 12, 6, .inl (fun _ => 0))), (q3, .inl (cy 12, 6, .inl (fun _ => 0)))] ++ ([] : va_W)) := hD
  obtain ⟨aa, haa⟩ : ∃ aa : List Nat → Nat, aa = (fun z => match z with | [] => 0 | [k] => ([(q1 + 1 + 0), (q1 + 1 + 1), (q1 + 1 + 2), (q1 + 1 + 3), (q1 + 1 + 4), (q1 + 1 + 5), q1, q2, q3] : List Nat).getD k 0 | i :: z' => ([] : List (List Nat → Nat)).getD i (fun _ => 0) z') := ⟨_, rfl⟩
  have hP := arrq hP 1 (fun j => some (aa [0 + j])) rfl (fun j hj => by rw [haa]; rcases (show j = 0 ∨ j = 1 ∨ j = 2 ∨ j = 3 ∨ j = 4 ∨ j = 5 by omega) with rfl | rfl | rfl | rfl | rfl | rfl <;> rfl)
  have hD := hD.set (e := .inl (cy 18, 6, .inr (.inr (.inr (.inr (fun j => some (aa [0 + j]))))))) (show ([(h0, .inr (5, [.ref c1, .ref q1, .ref q2, .ref q3, .int 0, .int 0, .int 0])), (q1, .inl (cy 18, 6, .inr (.inr (.inr (.inr (fun j => some (q1 + 1 + j))))))), ((q1 + 1 + 0), .inl (cy 12, 6, .inl (fun _ => 0))), ((q1 + 1 + 1), .inl (cy 12, 6, .inl (fun _ => 0))), ((q1 + 1 + 2), .inl (cy 12, 6, .inl (fun _ => 0))), ((q1 + 1 + 3), .inl (cy 12, 6, .inl (fun _ => 0))), ((q1 + 1 + 4), .inl (cy 12, 6, .inl (fun _ => 0))), ((q1 + 1 + 5), .inl (cy 12, 6, .inl (fun _ => 0))), (q2, .inl (cy 12, 6, .inl (fun _ => 0))), (q3, .inl (cy 12, 6, .inl (fun _ => 0)))] ++ ([] : va_W))[1]? = some _ from rfl)
  have hP : va_P D vwCl ([(h0, .inr (5, [.ref c1, .ref q1, .ref q2, .ref q3, .int 0, .int 0, .int 0])), (q1, .inl (cy 18, 6, .inr (.inr (.inr (.inr (fun j => some (aa [0 + j]))))))), ((q1 + 1 + 0), .inl (cy 12, 6, .inl (fun _ => 0))), ((q1 + 1 + 1), .inl (cy 12, 6, .inl (fun _ => 0))), ((q1 + 1 + 2), .inl (cy 12, 6, .inl (fun _ => 0))), ((q1 + 1 + 3), .inl (cy 12, 6, .inl (fun _ => 0))), ((q1 + 1 + 4), .inl (cy 12, 6, .inl (fun _ => 0))), ((q1 + 1 + 5), .inl (cy 12, 6, .inl (fun _ => 0))), (q2, .inl (cy 12, 6, .inl (fun _ => 0))), (q3, .inl (cy 12, 6, .inl (fun _ => 0)))] ++ ([] : va_W)) H := hP
  have hD : va_D A ([(h0, .inr (5, [.ref c1, .ref q1, .ref q2, .ref q3, .int 0, .int 0, .int 0])), (q1, .inl (cy 18, 6, .inr (.inr (.inr (.inr (fun j => some (aa [0 + j]))))))), ((q1 + 1 + 0), .inl (cy 12, 6, .inl (fun _ => 0))), ((q1 + 1 + 1), .inl (cy 12, 6, .inl (fun _ => 0))), ((q1 + 1 + 2), .inl (cy 12, 6, .inl (fun _ => 0))), ((q1 + 1 + 3), .inl (cy 12, 6, .inl (fun _ => 0))), ((q1 + 1 + 4), .inl (cy 12, 6, .inl (fun _ => 0))), ((q1 + 1 + 5), .inl (cy 12, 6, .inl (fun _ => 0))), (q2, .inl (cy 12, 6, .inl (fun _ => 0))), (q3, .inl (cy 12, 6, .inl (fun _ => 0)))] ++ ([] : va_W)) := hD
  have hP9 : va_P D vwCl (cel_X5 cy h0 c1 aa) H := by rw [haa] at hP ⊢; exact hP
  have hD9 : va_D A (cel_X5 cy h0 c1 aa) := by rw [haa] at hD ⊢; exact hD
  exact W.vret C.1 C.2.1 hr (fun t ht hW => ⟨⟨aa, rfl, trivial, by rw [ht]; exact hP9, hD9⟩, hS.F ht⟩) hS.2.2 dX5_init_37 hlk
