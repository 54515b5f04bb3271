def Step_port (Inv : VV → VV → Prop) : Prop := ∀ vC vM : VV, Inv vC vM → ∃ (r : Int32) (vC' vM' : VV), F_X10_port 0 vC = some (r, vC') ∧ F_X11_port 0 vM = some (r, vM') ∧ Inv vC' vM'
def Step_set (Inv : VV → VV → Prop) : Prop := ∀ vC vM : VV, Inv vC vM → ∀ (a0 a1 a2 a3 : Int32), ∃ (r : Int32) (vC' vM' : VV), F_X10_set 0 a0 a1 a2 a3 vC = some (r, vC') ∧ F_X11_set 0 a0 a1 a2 a3 vM = some (r, vM') ∧ Inv vC' vM'
def Step_about (Inv : VV → VV → Prop) : Prop := ∀ vC vM : VV, Inv vC vM → ∀ (a0 a1 a2 : Int32), ∃ (r : Int32) (vC' vM' : VV), F_X10_about 0 a0 a1 a2 vC = some (r, vC') ∧ F_X11_about 0 a0 a1 a2 vM = some (r, vM') ∧ Inv vC' vM'
def Step_tax (Inv : VV → VV → Prop) : Prop := ∀ vC vM : VV, Inv vC vM → ∀ (a0 a1 : Int32), ∃ (r : Int32) (vC' vM' : VV), F_X10_tax 0 a0 a1 vC = some (r, vC') ∧ F_X11_tax 0 a0 a1 vM = some (r, vM') ∧ Inv vC' vM'
def Step_shut (Inv : VV → VV → Prop) : Prop := ∀ vC vM : VV, Inv vC vM → ∀ (a0 a1 : Int32), a1 &&& 1 = a1 → ∃ (r : Int32) (vC' vM' : VV), F_X10_shut 0 a0 a1 vC = some (r, vC') ∧ F_X11_shut 0 a0 a1 vM = some (r, vM') ∧ Inv vC' vM'
def Step_way (Inv : VV → VV → Prop) : Prop := ∀ vC vM : VV, Inv vC vM → ∀ (a0 a1 a2 : Int32), ∃ (r : Int32) (vC' vM' : VV), F_X10_way 0 a0 a1 a2 vC = some (r, vC') ∧ F_X11_way 0 a0 a1 a2 vM = some (r, vM') ∧ Inv vC' vM'
def Step_ofPort (Inv : VV → VV → Prop) : Prop := ∀ vC vM : VV, Inv vC vM → ∀ (a0 a1 : Int32), ∃ (r : Int32) (vC' vM' : VV), F_X10_ofPort 0 a0 a1 vC = some (r, vC') ∧ F_X11_ofPort 0 a0 a1 vM = some (r, vM') ∧ Inv vC' vM'
def Step_tick (Inv : VV → VV → Prop) : Prop := ∀ vC vM : VV, Inv vC vM → ∀ (a0 : Int32), ∃ (r : Int32) (vC' vM' : VV), F_X10_tick 0 a0 vC = some (r, vC') ∧ F_X11_tick 0 a0 vM = some (r, vM') ∧ Inv vC' vM'
def Step_event (Inv : VV → VV → Prop) : Prop := ∀ vC vM : VV, Inv vC vM → ∀ (a0 a1 a2 a3 : Int32), ∃ (r : Int32) (vC' vM' : VV), F_X10_event 0 a0 a1 a2 a3 vC = some (r, vC') ∧ F_X11_event 0 a0 a1 a2 a3 vM = some (r, vM') ∧ Inv vC' vM'
def Step_ship (Inv : VV → VV → Prop) : Prop := ∀ vC vM : VV, Inv vC vM → ∀ (a0 a1 a2 : Int32), ∃ (r : Int32) (vC' vM' : VV), F_X10_ship 0 a0 a1 a2 vC = some (r, vC') ∧ F_X11_ship 0 a0 a1 a2 vM = some (r, vM') ∧ Inv vC' vM'
def Step_buy (Inv : VV → VV → Prop) : Prop := ∀ vC vM : VV, Inv vC vM → ∀ (a0 a1 a2 : Int32), ∃ (r : Int32) (vC' vM' : VV), F_X10_buy 0 a0 a1 a2 vC = some (r, vC') ∧ F_X11_buy 0 a0 a1 a2 vM = some (r, vM') ∧ Inv vC' vM'
def Step_sell (Inv : VV → VV → Prop) : Prop := ∀ vC vM : VV, Inv vC vM → ∀ (a0 a1 a2 : Int32), ∃ (r : Int32) (vC' vM' : VV), F_X10_sell 0 a0 a1 a2 vC = some (r, vC') ∧ F_X11_sell 0 a0 a1 a2 vM = some (r, vM') ∧ Inv vC' vM'
def Step_go (Inv : VV → VV → Prop) : Prop := ∀ vC vM : VV, Inv vC vM → ∀ (a0 a1 : Int32), ∃ (r : Int32) (vC' vM' : VV), F_X10_go 0 a0 a1 vC = some (r, vC') ∧ F_X11_go 0 a0 a1 vM = some (r, vM') ∧ Inv vC' vM'
def Step_ofShip (Inv : VV → VV → Prop) : Prop := ∀ vC vM : VV, Inv vC vM → ∀ (a0 a1 : Int32), ∃ (r : Int32) (vC' vM' : VV), F_X10_ofShip 0 a0 a1 vC = some (r, vC') ∧ F_X11_ofShip 0 a0 a1 vM = some (r, vM') ∧ Inv vC' vM'
def Step_fuel (Inv : VV → VV → Prop) : Prop := ∀ vC vM : VV, Inv vC vM → ∀ (a0 : Int32), ∃ (r : Int32) (vC' vM' : VV), F_X10_fuel 0 a0 vC = some (r, vC') ∧ F_X11_fuel 0 a0 vM = some (r, vM') ∧ Inv vC' vM'
def Step_told (Inv : VV → VV → Prop) : Prop := ∀ vC vM : VV, Inv vC vM → ∀ (a0 : Int32), ∃ (r : Int32) (vC' vM' : VV), F_X10_told 0 a0 vC = some (r, vC') ∧ F_X11_told 0 a0 vM = some (r, vM') ∧ Inv vC' vM'
def Step_ring (Inv : VV → VV → Prop) : Prop := ∀ vC vM : VV, Inv vC vM → ∀ (a0 a1 : Int32), ∃ (r : Int32) (vC' vM' : VV), F_X10_ring 0 a0 a1 vC = some (r, vC') ∧ F_X11_ring 0 a0 a1 vM = some (r, vM') ∧ Inv vC' vM'
def Step_plan (Inv : VV → VV → Prop) : Prop := ∀ vC vM : VV, Inv vC vM → ∀ (a0 a1 : Int32), ∃ (r : Int32) (vC' vM' : VV), F_X10_plan 0 a0 a1 vC = some (r, vC') ∧ F_X11_plan 0 a0 a1 vM = some (r, vM') ∧ Inv vC' vM'
def Step_planned (Inv : VV → VV → Prop) : Prop := ∀ vC vM : VV, Inv vC vM → ∀ (a0 a1 : Int32), ∃ (r : Int32) (vC' vM' : VV), F_X10_planned 0 a0 a1 vC = some (r, vC') ∧ F_X11_planned 0 a0 a1 vM = some (r, vM') ∧ Inv vC' vM'
def Step_starves (Inv : VV → VV → Prop) : Prop := ∀ vC vM : VV, Inv vC vM → ∀ (a0 a1 a2 : Int32), ∃ (r : Int32) (vC' vM' : VV), F_X10_starves 0 a0 a1 a2 vC = some (r, vC') ∧ F_X11_starves 0 a0 a1 a2 vM = some (r, vM') ∧ Inv vC' vM'
section
variable {p : Program} {l : Launch} {e : Env} {R : Room} {s : State} {m : MethodId} {below : List Frame} {meth : Method} {c : Code} {D : va_G} {cy : Nat → ClassId} {adC adM : Nat → Nat} {b L i : Nat} {xs : Nat → Int32} {H : Heap} {locs : List Loc} {ls : Array Slot} {vC vM : VV} {Q : State → Prop} {tL tM : Nat}
set_option maxHeartbeats 4000000 in
set_option maxRecDepth 100000 in
theorem law_c0 {Inv : VV → VV → Prop} (C : Cx p s m #[Value.ref b] c cL_law 4 RL D cy) (G : LG s b L xs adC adM) (hST : STL s tL tM) (hR : RoL 40 R) (hcs : 117 ≤ R.cells ∧ 898 ≤ R.slots) (hi : i + 5 ≤ L) (hL : L ≤ 2560) (hw : LW D cy adC adM vC vM H) (hS : va_S (fun q => s.heap.size ≤ q) s.heap H locs) (hl : lv_has ls 4 [(0, .ref b), (1, .ref (adC 0)), (2, .ref (adM 0)), (3, .int (nI i))]) (hstep : ∃ (r : Int32) (vC' vM' : VV), F_X10_port 0 vC = some (r, vC') ∧ F_X11_port 0 vM = some (r, vM') ∧ Inv vC' vM') (kk : ∀ (vC' vM' : VV) (H : Heap) (locs : List Loc), Inv vC' vM' → LW D cy adC adM vC' vM' H → va_S (fun q => s.heap.size ≤ q) s.heap H locs → W p l e R s m #[Value.ref b] below meth c H locs 117 898 Q (F0 m 854 ls [])) : W p l e R s m #[Value.ref b] below meth c H locs 117 898 Q (F0 m 128 ls []) := by
  obtain ⟨hPC, hPM⟩ := hw
  refine lv_aload_n (pc := 128) C.1 C.2.1 dL_law_128 rfl (lv_at hl 1 rfl) ?_
  obtain ⟨r, vC', vM', hc1, hc2, hInv⟩ := hstep
  refine z_calli (pc := 129) C hPC hPM G.2.2.2.2.2.2 G.2.2.2.2.1 hS mi_X10_port ck_10 (k0C : wk LC 0 10) ml_L_13 (hR.le (by decide) : RoL (1 + 1) R) (Nat.le_trans (by decide) hcs.1) (Nat.le_trans (by decide) hcs.2) [] rfl hl.1 rfl (Nat.le_of_ble_eq_true rfl) dL_law_129 pcG_blind (pcG_law C hPC) (m_X10_port G.2.2.1 k0C hc1) (fun H locs hPC hPM hS => ?_)
  refine lv_aload_n (pc := 132) C.1 C.2.1 dL_law_132 rfl (lv_at hl 2 rfl) ?_
  refine z_calli (pc := 133) C hPM hPC (fun i j hi hj h => G.2.2.2.2.2.2 j i hj hi h.symm) G.2.2.2.2.2.1 hS mi_X11_port ck_11 (k0M : wk LM 0 11) ml_L_17 (hR.le (by decide) : RoL (1 + 1) R) (Nat.le_trans (by decide) hcs.1) (Nat.le_trans (by decide) hcs.2) [] rfl hl.1 rfl (Nat.le_of_ble_eq_true rfl) dL_law_133 pcG_blind (pcG_law C hPM) (m_X11_port G.2.2.2.1 k0M hc2) (fun H locs hPM hPC hS => ?_)
  refine lv_icmp_eq (pc := 136) (tgt := 854) C.1 C.2.1 dL_law_136 (by decide) (fun _ => ?_) (fun h => absurd rfl h)
  exact kk _ _ _ _ hInv ⟨hPC, hPM⟩ hS
set_option maxHeartbeats 4000000 in
set_option maxRecDepth 100000 in
theorem law_c1 {Inv : VV → VV → Prop} (C : Cx p s m #[Value.ref b] c cL_law 4 RL D cy) (G : LG s b L xs adC adM) (hST : STL s tL tM) (hR : RoL 40 R) (hcs : 117 ≤ R.cells ∧ 898 ≤ R.slots) (hi : i + 5 ≤ L) (hL : L ≤ 2560) (hw : LW D cy adC adM vC vM H) (hS : va_S (fun q => s.heap.size ≤ q) s.heap H locs) (hl : lv_has ls 4 [(0, .ref b), (1, .ref (adC 0)), (2, .ref (adM 0)), (3, .int (nI i))]) (hstep : ∀ (a0 a1 a2 a3 : Int32), ∃ (r : Int32) (vC' vM' : VV), F_X10_set 0 a0 a1 a2 a3 vC = some (r, vC') ∧ F_X11_set 0 a0 a1 a2 a3 vM = some (r, vM') ∧ Inv vC' vM') (kk : ∀ (vC' vM' : VV) (H : Heap) (locs : List Loc), Inv vC' vM' → LW D cy adC adM vC' vM' H → va_S (fun q => s.heap.size ≤ q) s.heap H locs → W p l e R s m #[Value.ref b] below meth c H locs 117 898 Q (F0 m 854 ls [])) : W p l e R s m #[Value.ref b] below meth c H locs 117 898 Q (F0 m 141 ls []) := by
  obtain ⟨hPC, hPM⟩ := hw
  refine lv_aload_n (pc := 141) C.1 C.2.1 dL_law_141 rfl (lv_at hl 1 rfl) ?_
  refine lv_aload_n (pc := 142) C.1 C.2.1 dL_law_142 rfl (lv_at hl 0 rfl) ?_
  refine lv_iload_n (pc := 143) C.1 C.2.1 dL_law_143 rfl (lv_at hl 3 rfl) ?_
  refine lv_iconst (pc := 144) (v := 1) C.1 C.2.1 dL_law_144 (by decide) ?_
  refine lv_iadd (pc := 145) C.1 C.2.1 dL_law_145 ?_
  refine va_sld (pc := 146) C.1 C.2.1 G.1 G.2.1 (Nat.not_le.mpr G.2.1) hS (lg_in hi hL 1 1 (by decide) (by decide)) dL_law_146 ?_
  refine lv_aload_n (pc := 147) C.1 C.2.1 dL_law_147 rfl (lv_at hl 0 rfl) ?_
  refine lv_iload_n (pc := 148) C.1 C.2.1 dL_law_148 rfl (lv_at hl 3 rfl) ?_
  refine lv_iconst (pc := 149) (v := 2) C.1 C.2.1 dL_law_149 (by decide) ?_
  refine lv_iadd (pc := 150) C.1 C.2.1 dL_law_150 ?_
  refine va_sld (pc := 151) C.1 C.2.1 G.1 G.2.1 (Nat.not_le.mpr G.2.1) hS (lg_in hi hL 2 2 (by decide) (by decide)) dL_law_151 ?_
  refine lv_aload_n (pc := 152) C.1 C.2.1 dL_law_152 rfl (lv_at hl 0 rfl) ?_
  refine lv_iload_n (pc := 153) C.1 C.2.1 dL_law_153 rfl (lv_at hl 3 rfl) ?_
  refine lv_iconst (pc := 154) (v := 3) C.1 C.2.1 dL_law_154 (by decide) ?_
  refine lv_iadd (pc := 155) C.1 C.2.1 dL_law_155 ?_
  refine va_sld (pc := 156) C.1 C.2.1 G.1 G.2.1 (Nat.not_le.mpr G.2.1) hS (lg_in hi hL 3 3 (by decide) (by decide)) dL_law_156 ?_
  refine lv_aload_n (pc := 157) C.1 C.2.1 dL_law_157 rfl (lv_at hl 0 rfl) ?_
  refine lv_iload_n (pc := 158) C.1 C.2.1 dL_law_158 rfl (lv_at hl 3 rfl) ?_
  refine lv_iconst (pc := 159) (v := 4) C.1 C.2.1 dL_law_159 (by decide) ?_
  refine lv_iadd (pc := 160) C.1 C.2.1 dL_law_160 ?_
  refine va_sld (pc := 161) C.1 C.2.1 G.1 G.2.1 (Nat.not_le.mpr G.2.1) hS (lg_in hi hL 4 4 (by decide) (by decide)) dL_law_161 ?_
  obtain ⟨r, vC', vM', hc1, hc2, hInv⟩ := hstep (xs (nI i + 1).toNatClampNeg) (xs (nI i + 2).toNatClampNeg) (xs (nI i + 3).toNatClampNeg) (xs (nI i + 4).toNatClampNeg)
  refine z_calli (pc := 162) C hPC hPM G.2.2.2.2.2.2 G.2.2.2.2.1 hS mi_X10_set ck_10 (k0C : wk LC 0 10) ml_L_18 (hR.le (by decide) : RoL (3 + 1) R) (Nat.le_trans (by decide) hcs.1) (Nat.le_trans (by decide) hcs.2) [.int (xs (nI i + 1).toNatClampNeg), .int (xs (nI i + 2).toNatClampNeg), .int (xs (nI i + 3).toNatClampNeg), .int (xs (nI i + 4).toNatClampNeg)] rfl hl.1 rfl (Nat.le_of_ble_eq_true rfl) dL_law_162 pcS_blind (pcS_law C G hPC hS hST) (m_X10_set G.2.2.1 k0C hc1) (fun H locs hPC hPM hS => ?_)
  refine lv_aload_n (pc := 165) C.1 C.2.1 dL_law_165 rfl (lv_at hl 2 rfl) ?_
  refine lv_aload_n (pc := 166) C.1 C.2.1 dL_law_166 rfl (lv_at hl 0 rfl) ?_
  refine lv_iload_n (pc := 167) C.1 C.2.1 dL_law_167 rfl (lv_at hl 3 rfl) ?_
  refine lv_iconst (pc := 168) (v := 1) C.1 C.2.1 dL_law_168 (by decide) ?_
  refine lv_iadd (pc := 169) C.1 C.2.1 dL_law_169 ?_
  refine va_sld (pc := 170) C.1 C.2.1 G.1 G.2.1 (Nat.not_le.mpr G.2.1) hS (lg_in hi hL 1 1 (by decide) (by decide)) dL_law_170 ?_
  refine lv_aload_n (pc := 171) C.1 C.2.1 dL_law_171 rfl (lv_at hl 0 rfl) ?_
  refine lv_iload_n (pc := 172) C.1 C.2.1 dL_law_172 rfl (lv_at hl 3 rfl) ?_
  refine lv_iconst (pc := 173) (v := 2) C.1 C.2.1 dL_law_173 (by decide) ?_
  refine lv_iadd (pc := 174) C.1 C.2.1 dL_law_174 ?_
  refine va_sld (pc := 175) C.1 C.2.1 G.1 G.2.1 (Nat.not_le.mpr G.2.1) hS (lg_in hi hL 2 2 (by decide) (by decide)) dL_law_175 ?_
  refine lv_aload_n (pc := 176) C.1 C.2.1 dL_law_176 rfl (lv_at hl 0 rfl) ?_
  refine lv_iload_n (pc := 177) C.1 C.2.1 dL_law_177 rfl (lv_at hl 3 rfl) ?_
  refine lv_iconst (pc := 178) (v := 3) C.1 C.2.1 dL_law_178 (by decide) ?_
  refine lv_iadd (pc := 179) C.1 C.2.1 dL_law_179 ?_
  refine va_sld (pc := 180) C.1 C.2.1 G.1 G.2.1 (Nat.not_le.mpr G.2.1) hS (lg_in hi hL 3 3 (by decide) (by decide)) dL_law_180 ?_
  refine lv_aload_n (pc := 181) C.1 C.2.1 dL_law_181 rfl (lv_at hl 0 rfl) ?_
  refine lv_iload_n (pc := 182) C.1 C.2.1 dL_law_182 rfl (lv_at hl 3 rfl) ?_
  refine lv_iconst (pc := 183) (v := 4) C.1 C.2.1 dL_law_183 (by decide) ?_
  refine lv_iadd (pc := 184) C.1 C.2.1 dL_law_184 ?_
  refine va_sld (pc := 185) C.1 C.2.1 G.1 G.2.1 (Nat.not_le.mpr G.2.1) hS (lg_in hi hL 4 4 (by decide) (by decide)) dL_law_185 ?_
  refine z_calli (pc := 186) C hPM hPC (fun i j hi hj h => G.2.2.2.2.2.2 j i hj hi h.symm) G.2.2.2.2.2.1 hS mi_X11_set ck_11 (k0M : wk LM 0 11) ml_L_22 (hR.le (by decide) : RoL (3 + 1) R) (Nat.le_trans (by decide) hcs.1) (Nat.le_trans (by decide) hcs.2) [.int (xs (nI i + 1).toNatClampNeg), .int (xs (nI i + 2).toNatClampNeg), .int (xs (nI i + 3).toNatClampNeg), .int (xs (nI i + 4).toNatClampNeg)] rfl hl.1 rfl (Nat.le_of_ble_eq_true rfl) dL_law_186 pcG_blind (pcG_law C hPM) (m_X11_set G.2.2.2.1 k0M hc2) (fun H locs hPM hPC hS => ?_)
  refine lv_icmp_eq (pc := 189) (tgt := 854) C.1 C.2.1 dL_law_189 (by decide) (fun _ => ?_) (fun h => absurd rfl h)
  exact kk _ _ _ _ hInv ⟨hPC, hPM⟩ hS
set_option maxHeartbeats 4000000 in
set_option maxRecDepth 100000 in
theorem law_c2 {Inv : VV → VV → Prop} (C : Cx p s m #[Value.ref b] c cL_law 4 RL D cy) (G : LG s b L xs adC adM) (hST : STL s tL tM) (hR : RoL 40 R) (hcs : 117 ≤ R.cells ∧ 898 ≤ R.slots) (hi : i + 5 ≤ L) (hL : L ≤ 2560) (hw : LW D cy adC adM vC vM H) (hS : va_S (fun q => s.heap.size ≤ q) s.heap H locs) (hl : lv_has ls 4 [(0, .ref b), (1, .ref (adC 0)), (2, .ref (adM 0)), (3, .int (nI i))]) (hstep : ∀ (a0 a1 a2 : Int32), ∃ (r : Int32) (vC' vM' : VV), F_X10_about 0 a0 a1 a2 vC = some (r, vC') ∧ F_X11_about 0 a0 a1 a2 vM = some (r, vM') ∧ Inv vC' vM') (kk : ∀ (vC' vM' : VV) (H : Heap) (locs : List Loc), Inv vC' vM' → LW D cy adC adM vC' vM' H → va_S (fun q => s.heap.size ≤ q) s.heap H locs → W p l e R s m #[Value.ref b] below meth c H locs 117 898 Q (F0 m 854 ls [])) : W p l e R s m #[Value.ref b] below meth c H locs 117 898 Q (F0 m 194 ls []) := by
  obtain ⟨hPC, hPM⟩ := hw
  refine lv_aload_n (pc := 194) C.1 C.2.1 dL_law_194 rfl (lv_at hl 1 rfl) ?_
  refine lv_aload_n (pc := 195) C.1 C.2.1 dL_law_195 rfl (lv_at hl 0 rfl) ?_
  refine lv_iload_n (pc := 196) C.1 C.2.1 dL_law_196 rfl (lv_at hl 3 rfl) ?_
  refine lv_iconst (pc := 197) (v := 1) C.1 C.2.1 dL_law_197 (by decide) ?_
  refine lv_iadd (pc := 198) C.1 C.2.1 dL_law_198 ?_
  refine va_sld (pc := 199) C.1 C.2.1 G.1 G.2.1 (Nat.not_le.mpr G.2.1) hS (lg_in hi hL 1 1 (by decide) (by decide)) dL_law_199 ?_
  refine lv_aload_n (pc := 200) C.1 C.2.1 dL_law_200 rfl (lv_at hl 0 rfl) ?_
  refine lv_iload_n (pc := 201) C.1 C.2.1 dL_law_201 rfl (lv_at hl 3 rfl) ?_
  refine lv_iconst (pc := 202) (v := 2) C.1 C.2.1 dL_law_202 (by decide) ?_
  refine lv_iadd (pc := 203) C.1 C.2.1 dL_law_203 ?_
  refine va_sld (pc := 204) C.1 C.2.1 G.1 G.2.1 (Nat.not_le.mpr G.2.1) hS (lg_in hi hL 2 2 (by decide) (by decide)) dL_law_204 ?_
  refine lv_aload_n (pc := 205) C.1 C.2.1 dL_law_205 rfl (lv_at hl 0 rfl) ?_
  refine lv_iload_n (pc := 206) C.1 C.2.1 dL_law_206 rfl (lv_at hl 3 rfl) ?_
  refine lv_iconst (pc := 207) (v := 3) C.1 C.2.1 dL_law_207 (by decide) ?_
  refine lv_iadd (pc := 208) C.1 C.2.1 dL_law_208 ?_
  refine va_sld (pc := 209) C.1 C.2.1 G.1 G.2.1 (Nat.not_le.mpr G.2.1) hS (lg_in hi hL 3 3 (by decide) (by decide)) dL_law_209 ?_
  obtain ⟨r, vC', vM', hc1, hc2, hInv⟩ := hstep (xs (nI i + 1).toNatClampNeg) (xs (nI i + 2).toNatClampNeg) (xs (nI i + 3).toNatClampNeg)
  refine z_calli (pc := 210) C hPC hPM G.2.2.2.2.2.2 G.2.2.2.2.1 hS mi_X10_about ck_10 (k0C : wk LC 0 10) ml_L_23 (hR.le (by decide) : RoL (3 + 1) R) (Nat.le_trans (by decide) hcs.1) (Nat.le_trans (by decide) hcs.2) [.int (xs (nI i + 1).toNatClampNeg), .int (xs (nI i + 2).toNatClampNeg), .int (xs (nI i + 3).toNatClampNeg)] rfl hl.1 rfl (Nat.le_of_ble_eq_true rfl) dL_law_210 pcG_blind (pcG_law C hPC) (m_X10_about G.2.2.1 k0C hc1) (fun H locs hPC hPM hS => ?_)
  refine lv_aload_n (pc := 213) C.1 C.2.1 dL_law_213 rfl (lv_at hl 2 rfl) ?_
  refine lv_aload_n (pc := 214) C.1 C.2.1 dL_law_214 rfl (lv_at hl 0 rfl) ?_
  refine lv_iload_n (pc := 215) C.1 C.2.1 dL_law_215 rfl (lv_at hl 3 rfl) ?_
  refine lv_iconst (pc := 216) (v := 1) C.1 C.2.1 dL_law_216 (by decide) ?_
  refine lv_iadd (pc := 217) C.1 C.2.1 dL_law_217 ?_
  refine va_sld (pc := 218) C.1 C.2.1 G.1 G.2.1 (Nat.not_le.mpr G.2.1) hS (lg_in hi hL 1 1 (by decide) (by decide)) dL_law_218 ?_
  refine lv_aload_n (pc := 219) C.1 C.2.1 dL_law_219 rfl (lv_at hl 0 rfl) ?_
  refine lv_iload_n (pc := 220) C.1 C.2.1 dL_law_220 rfl (lv_at hl 3 rfl) ?_
  refine lv_iconst (pc := 221) (v := 2) C.1 C.2.1 dL_law_221 (by decide) ?_
  refine lv_iadd (pc := 222) C.1 C.2.1 dL_law_222 ?_
  refine va_sld (pc := 223) C.1 C.2.1 G.1 G.2.1 (Nat.not_le.mpr G.2.1) hS (lg_in hi hL 2 2 (by decide) (by decide)) dL_law_223 ?_
  refine lv_aload_n (pc := 224) C.1 C.2.1 dL_law_224 rfl (lv_at hl 0 rfl) ?_
  refine lv_iload_n (pc := 225) C.1 C.2.1 dL_law_225 rfl (lv_at hl 3 rfl) ?_
  refine lv_iconst (pc := 226) (v := 3) C.1 C.2.1 dL_law_226 (by decide) ?_
  refine lv_iadd (pc := 227) C.1 C.2.1 dL_law_227 ?_
  refine va_sld (pc := 228) C.1 C.2.1 G.1 G.2.1 (Nat.not_le.mpr G.2.1) hS (lg_in hi hL 3 3 (by decide) (by decide)) dL_law_228 ?_
  refine z_calli (pc := 229) C hPM hPC (fun i j hi hj h => G.2.2.2.2.2.2 j i hj hi h.symm) G.2.2.2.2.2.1 hS mi_X11_about ck_11 (k0M : wk LM 0 11) ml_L_27 (hR.le (by decide) : RoL (3 + 1) R) (Nat.le_trans (by decide) hcs.1) (Nat.le_trans (by decide) hcs.2) [.int (xs (nI i + 1).toNatClampNeg), .int (xs (nI i + 2).toNatClampNeg), .int (xs (nI i + 3).toNatClampNeg)] rfl hl.1 rfl (Nat.le_of_ble_eq_true rfl) dL_law_229 pcG_blind (pcG_law C hPM) (m_X11_about G.2.2.2.1 k0M hc2) (fun H locs hPM hPC hS => ?_)
  refine lv_icmp_eq (pc := 232) (tgt := 854) C.1 C.2.1 dL_law_232 (by decide) (fun _ => ?_) (fun h => absurd rfl h)
  exact kk _ _ _ _ hInv ⟨hPC, hPM⟩ hS
set_option maxHeartbeats 4000000 in
set_option maxRecDepth 100000 in
theorem law_c3 {Inv : VV → VV → Prop} (C : Cx p s m #[Value.ref b] c cL_law 4 RL D cy) (G : LG s b L xs adC adM) (hST : STL s tL tM) (hR : RoL 40 R) (hcs : 117 ≤ R.cells ∧ 898 ≤ R.slots) (hi : i + 5 ≤ L) (hL : L ≤ 2560) (hw : LW D cy adC adM vC vM H) (hS : va_S (fun q => s.heap.size ≤ q) s.heap H locs) (hl : lv_has ls 4 [(0, .ref b), (1, .ref (adC 0)), (2, .ref (adM 0)), (3, .int (nI i))]) (hstep : ∀ (a0 a1 : Int32), ∃ (r : Int32) (vC' vM' : VV), F_X10_tax 0 a0 a1 vC = some (r, vC') ∧ F_X11_tax 0 a0 a1 vM = some (r, vM') ∧ Inv vC' vM') (kk : ∀ (vC' vM' : VV) (H : Heap) (locs : List Loc), Inv vC' vM' → LW D cy adC adM vC' vM' H → va_S (fun q => s.heap.size ≤ q) s.heap H locs → W p l e R s m #[Value.ref b] below meth c H locs 117 898 Q (F0 m 854 ls [])) : W p l e R s m #[Value.ref b] below meth c H locs 117 898 Q (F0 m 237 ls []) := by
  obtain ⟨hPC, hPM⟩ := hw
  refine lv_aload_n (pc := 237) C.1 C.2.1 dL_law_237 rfl (lv_at hl 1 rfl) ?_
  refine lv_aload_n (pc := 238) C.1 C.2.1 dL_law_238 rfl (lv_at hl 0 rfl) ?_
  refine lv_iload_n (pc := 239) C.1 C.2.1 dL_law_239 rfl (lv_at hl 3 rfl) ?_
  refine lv_iconst (pc := 240) (v := 1) C.1 C.2.1 dL_law_240 (by decide) ?_
  refine lv_iadd (pc := 241) C.1 C.2.1 dL_law_241 ?_
  refine va_sld (pc := 242) C.1 C.2.1 G.1 G.2.1 (Nat.not_le.mpr G.2.1) hS (lg_in hi hL 1 1 (by decide) (by decide)) dL_law_242 ?_
  refine lv_aload_n (pc := 243) C.1 C.2.1 dL_law_243 rfl (lv_at hl 0 rfl) ?_
  refine lv_iload_n (pc := 244) C.1 C.2.1 dL_law_244 rfl (lv_at hl 3 rfl) ?_
  refine lv_iconst (pc := 245) (v := 2) C.1 C.2.1 dL_law_245 (by decide) ?_
  refine lv_iadd (pc := 246) C.1 C.2.1 dL_law_246 ?_
  refine va_sld (pc := 247) C.1 C.2.1 G.1 G.2.1 (Nat.not_le.mpr G.2.1) hS (lg_in hi hL 2 2 (by decide) (by decide)) dL_law_247 ?_
  obtain ⟨r, vC', vM', hc1, hc2, hInv⟩ := hstep (xs (nI i + 1).toNatClampNeg) (xs (nI i + 2).toNatClampNeg)
  refine z_calli (pc := 248) C hPC hPM G.2.2.2.2.2.2 G.2.2.2.2.1 hS mi_X10_tax ck_10 (k0C : wk LC 0 10) ml_L_28 (hR.le (by decide) : RoL (3 + 1) R) (Nat.le_trans (by decide) hcs.1) (Nat.le_trans (by decide) hcs.2) [.int (xs (nI i + 1).toNatClampNeg), .int (xs (nI i + 2).toNatClampNeg)] rfl hl.1 rfl (Nat.le_of_ble_eq_true rfl) dL_law_248 pcG_blind (pcG_law C hPC) (m_X10_tax G.2.2.1 k0C hc1) (fun H locs hPC hPM hS => ?_)
  refine lv_aload_n (pc := 251) C.1 C.2.1 dL_law_251 rfl (lv_at hl 2 rfl) ?_
  refine lv_aload_n (pc := 252) C.1 C.2.1 dL_law_252 rfl (lv_at hl 0 rfl) ?_
  refine lv_iload_n (pc := 253) C.1 C.2.1 dL_law_253 rfl (lv_at hl 3 rfl) ?_
  refine lv_iconst (pc := 254) (v := 1) C.1 C.2.1 dL_law_254 (by decide) ?_
  refine lv_iadd (pc := 255) C.1 C.2.1 dL_law_255 ?_
  refine va_sld (pc := 256) C.1 C.2.1 G.1 G.2.1 (Nat.not_le.mpr G.2.1) hS (lg_in hi hL 1 1 (by decide) (by decide)) dL_law_256 ?_
  refine lv_aload_n (pc := 257) C.1 C.2.1 dL_law_257 rfl (lv_at hl 0 rfl) ?_
  refine lv_iload_n (pc := 258) C.1 C.2.1 dL_law_258 rfl (lv_at hl 3 rfl) ?_
  refine lv_iconst (pc := 259) (v := 2) C.1 C.2.1 dL_law_259 (by decide) ?_
  refine lv_iadd (pc := 260) C.1 C.2.1 dL_law_260 ?_
  refine va_sld (pc := 261) C.1 C.2.1 G.1 G.2.1 (Nat.not_le.mpr G.2.1) hS (lg_in hi hL 2 2 (by decide) (by decide)) dL_law_261 ?_
  refine z_calli (pc := 262) C hPM hPC (fun i j hi hj h => G.2.2.2.2.2.2 j i hj hi h.symm) G.2.2.2.2.2.1 hS mi_X11_tax ck_11 (k0M : wk LM 0 11) ml_L_32 (hR.le (by decide) : RoL (3 + 1) R) (Nat.le_trans (by decide) hcs.1) (Nat.le_trans (by decide) hcs.2) [.int (xs (nI i + 1).toNatClampNeg), .int (xs (nI i + 2).toNatClampNeg)] rfl hl.1 rfl (Nat.le_of_ble_eq_true rfl) dL_law_262 pcG_blind (pcG_law C hPM) (m_X11_tax G.2.2.2.1 k0M hc2) (fun H locs hPM hPC hS => ?_)
  refine lv_icmp_eq (pc := 265) (tgt := 854) C.1 C.2.1 dL_law_265 (by decide) (fun _ => ?_) (fun h => absurd rfl h)
  exact kk _ _ _ _ hInv ⟨hPC, hPM⟩ hS
set_option maxHeartbeats 4000000 in
set_option maxRecDepth 100000 in
theorem law_c4 {Inv : VV → VV → Prop} (C : Cx p s m #[Value.ref b] c cL_law 4 RL D cy) (G : LG s b L xs adC adM) (hST : STL s tL tM) (hR : RoL 40 R) (hcs : 117 ≤ R.cells ∧ 898 ≤ R.slots) (hi : i + 5 ≤ L) (hL : L ≤ 2560) (hw : LW D cy adC adM vC vM H) (hS : va_S (fun q => s.heap.size ≤ q) s.heap H locs) (hl : lv_has ls 4 [(0, .ref b), (1, .ref (adC 0)), (2, .ref (adM 0)), (3, .int (nI i))]) (hstep : ∀ (a0 a1 : Int32), a1 &&& 1 = a1 → ∃ (r : Int32) (vC' vM' : VV), F_X10_shut 0 a0 a1 vC = some (r, vC') ∧ F_X11_shut 0 a0 a1 vM = some (r, vM') ∧ Inv vC' vM') (kk : ∀ (vC' vM' : VV) (H : Heap) (locs : List Loc), Inv vC' vM' → LW D cy adC adM vC' vM' H → va_S (fun q => s.heap.size ≤ q) s.heap H locs → W p l e R s m #[Value.ref b] below meth c H locs 117 898 Q (F0 m 854 ls [])) : W p l e R s m #[Value.ref b] below meth c H locs 117 898 Q (F0 m 270 ls []) := by
  obtain ⟨hPC, hPM⟩ := hw
  refine lv_aload_n (pc := 270) C.1 C.2.1 dL_law_270 rfl (lv_at hl 1 rfl) ?_
  refine lv_aload_n (pc := 271) C.1 C.2.1 dL_law_271 rfl (lv_at hl 0 rfl) ?_
  refine lv_iload_n (pc := 272) C.1 C.2.1 dL_law_272 rfl (lv_at hl 3 rfl) ?_
  refine lv_iconst (pc := 273) (v := 1) C.1 C.2.1 dL_law_273 (by decide) ?_
  refine lv_iadd (pc := 274) C.1 C.2.1 dL_law_274 ?_
  refine va_sld (pc := 275) C.1 C.2.1 G.1 G.2.1 (Nat.not_le.mpr G.2.1) hS (lg_in hi hL 1 1 (by decide) (by decide)) dL_law_275 ?_
  refine lv_aload_n (pc := 276) C.1 C.2.1 dL_law_276 rfl (lv_at hl 0 rfl) ?_
  refine lv_iload_n (pc := 277) C.1 C.2.1 dL_law_277 rfl (lv_at hl 3 rfl) ?_
  refine lv_iconst (pc := 278) (v := 2) C.1 C.2.1 dL_law_278 (by decide) ?_
  refine lv_iadd (pc := 279) C.1 C.2.1 dL_law_279 ?_
  refine va_sld (pc := 280) C.1 C.2.1 G.1 G.2.1 (Nat.not_le.mpr G.2.1) hS (lg_in hi hL 2 2 (by decide) (by decide)) dL_law_280 ?_
  by_cases hz : (xs (nI i + 2).toNatClampNeg) = 0
  · skip
    refine lv_if_eq (pc := 281) (tgt := 288) C.1 C.2.1 dL_law_281 (by decide) (fun _ => ?_) (fun h => absurd hz h)
    refine lv_iconst (pc := 288) (v := 0) C.1 C.2.1 dL_law_288 (by decide) ?_
    obtain ⟨r, vC', vM', hc1, hc2, hInv⟩ := hstep (xs (nI i + 1).toNatClampNeg) 0 (by decide)
    refine z_calli (pc := 289) C hPC hPM G.2.2.2.2.2.2 G.2.2.2.2.1 hS mi_X10_shut ck_10 (k0C : wk LC 0 10) ml_L_33 (hR.le (by decide) : RoL (3 + 1) R) (Nat.le_trans (by decide) hcs.1) (Nat.le_trans (by decide) hcs.2) [.int (xs (nI i + 1).toNatClampNeg), .int 0] rfl hl.1 rfl (Nat.le_of_ble_eq_true rfl) dL_law_289 pcG_blind (pcG_law C hPC) (m_X10_shut G.2.2.1 k0C hc1) (fun H locs hPC hPM hS => ?_)
    refine lv_aload_n (pc := 292) C.1 C.2.1 dL_law_292 rfl (lv_at hl 2 rfl) ?_
    refine lv_aload_n (pc := 293) C.1 C.2.1 dL_law_293 rfl (lv_at hl 0 rfl) ?_
    refine lv_iload_n (pc := 294) C.1 C.2.1 dL_law_294 rfl (lv_at hl 3 rfl) ?_
    refine lv_iconst (pc := 295) (v := 1) C.1 C.2.1 dL_law_295 (by decide) ?_
    refine lv_iadd (pc := 296) C.1 C.2.1 dL_law_296 ?_
    refine va_sld (pc := 297) C.1 C.2.1 G.1 G.2.1 (Nat.not_le.mpr G.2.1) hS (lg_in hi hL 1 1 (by decide) (by decide)) dL_law_297 ?_
    refine lv_aload_n (pc := 298) C.1 C.2.1 dL_law_298 rfl (lv_at hl 0 rfl) ?_
    refine lv_iload_n (pc := 299) C.1 C.2.1 dL_law_299 rfl (lv_at hl 3 rfl) ?_
    refine lv_iconst (pc := 300) (v := 2) C.1 C.2.1 dL_law_300 (by decide) ?_
    refine lv_iadd (pc := 301) C.1 C.2.1 dL_law_301 ?_
    refine va_sld (pc := 302) C.1 C.2.1 G.1 G.2.1 (Nat.not_le.mpr G.2.1) hS (lg_in hi hL 2 2 (by decide) (by decide)) dL_law_302 ?_
    refine lv_if_eq (pc := 303) (tgt := 310) C.1 C.2.1 dL_law_303 (by decide) (fun _ => ?_) (fun h => absurd hz h)
    refine lv_iconst (pc := 310) (v := 0) C.1 C.2.1 dL_law_310 (by decide) ?_
    refine z_calli (pc := 311) C hPM hPC (fun i j hi hj h => G.2.2.2.2.2.2 j i hj hi h.symm) G.2.2.2.2.2.1 hS mi_X11_shut ck_11 (k0M : wk LM 0 11) ml_L_37 (hR.le (by decide) : RoL (3 + 1) R) (Nat.le_trans (by decide) hcs.1) (Nat.le_trans (by decide) hcs.2) [.int (xs (nI i + 1).toNatClampNeg), .int 0] rfl hl.1 rfl (Nat.le_of_ble_eq_true rfl) dL_law_311 pcG_blind (pcG_law C hPM) (m_X11_shut G.2.2.2.1 k0M hc2) (fun H locs hPM hPC hS => ?_)
    refine lv_icmp_eq (pc := 314) (tgt := 854) C.1 C.2.1 dL_law_314 (by decide) (fun _ => ?_) (fun h => absurd rfl h)
    exact kk _ _ _ _ hInv ⟨hPC, hPM⟩ hS
  · skip
    refine lv_if_eq (pc := 281) (tgt := 288) C.1 C.2.1 dL_law_281 (by decide) (fun h => absurd h hz) (fun _ => ?_)
    refine lv_iconst (pc := 284) (v := 1) C.1 C.2.1 dL_law_284 (by decide) ?_
    refine lv_goto (pc := 285) (tgt := 289) C.1 C.2.1 dL_law_285 (by decide) ?_
    obtain ⟨r, vC', vM', hc1, hc2, hInv⟩ := hstep (xs (nI i + 1).toNatClampNeg) 1 (by decide)
    refine z_calli (pc := 289) C hPC hPM G.2.2.2.2.2.2 G.2.2.2.2.1 hS mi_X10_shut ck_10 (k0C : wk LC 0 10) ml_L_33 (hR.le (by decide) : RoL (3 + 1) R) (Nat.le_trans (by decide) hcs.1) (Nat.le_trans (by decide) hcs.2) [.int (xs (nI i + 1).toNatClampNeg), .int 1] rfl hl.1 rfl (Nat.le_of_ble_eq_true rfl) dL_law_289 pcG_blind (pcG_law C hPC) (m_X10_shut G.2.2.1 k0C hc1) (fun H locs hPC hPM hS => ?_)
    refine lv_aload_n (pc := 292) C.1 C.2.1 dL_law_292 rfl (lv_at hl 2 rfl) ?_
    refine lv_aload_n (pc := 293) C.1 C.2.1 dL_law_293 rfl (lv_at hl 0 rfl) ?_
    refine lv_iload_n (pc := 294) C.1 C.2.1 dL_law_294 rfl (lv_at hl 3 rfl) ?_
    refine lv_iconst (pc := 295) (v := 1) C.1 C.2.1 dL_law_295 (by decide) ?_
    refine lv_iadd (pc := 296) C.1 C.2.1 dL_law_296 ?_
    refine va_sld (pc := 297) C.1 C.2.1 G.1 G.2.1 (Nat.not_le.mpr G.2.1) hS (lg_in hi hL 1 1 (by decide) (by decide)) dL_law_297 ?_
    refine lv_aload_n (pc := 298) C.1 C.2.1 dL_law_298 rfl (lv_at hl 0 rfl) ?_
    refine lv_iload_n (pc := 299) C.1 C.2.1 dL_law_299 rfl (lv_at hl 3 rfl) ?_
    refine lv_iconst (pc := 300) (v := 2) C.1 C.2.1 dL_law_300 (by decide) ?_
    refine lv_iadd (pc := 301) C.1 C.2.1 dL_law_301 ?_
    refine va_sld (pc := 302) C.1 C.2.1 G.1 G.2.1 (Nat.not_le.mpr G.2.1) hS (lg_in hi hL 2 2 (by decide) (by decide)) dL_law_302 ?_
    refine lv_if_eq (pc := 303) (tgt := 310) C.1 C.2.1 dL_law_303 (by decide) (fun h => absurd h hz) (fun _ => ?_)
    refine lv_iconst (pc := 306) (v := 1) C.1 C.2.1 dL_law_306 (by decide) ?_
    refine lv_goto (pc := 307) (tgt := 311) C.1 C.2.1 dL_law_307 (by decide) ?_
    refine z_calli (pc := 311) C hPM hPC (fun i j hi hj h => G.2.2.2.2.2.2 j i hj hi h.symm) G.2.2.2.2.2.1 hS mi_X11_shut ck_11 (k0M : wk LM 0 11) ml_L_37 (hR.le (by decide) : RoL (3 + 1) R) (Nat.le_trans (by decide) hcs.1) (Nat.le_trans (by decide) hcs.2) [.int (xs (nI i + 1).toNatClampNeg), .int 1] rfl hl.1 rfl (Nat.le_of_ble_eq_true rfl) dL_law_311 pcG_blind (pcG_law C hPM) (m_X11_shut G.2.2.2.1 k0M hc2) (fun H locs hPM hPC hS => ?_)
    refine lv_icmp_eq (pc := 314) (tgt := 854) C.1 C.2.1 dL_law_314 (by decide) (fun _ => ?_) (fun h => absurd rfl h)
    exact kk _ _ _ _ hInv ⟨hPC, hPM⟩ hS
set_option maxHeartbeats 4000000 in
set_option maxRecDepth 100000 in
theorem law_c5 {Inv : VV → VV → Prop} (C : Cx p s m #[Value.ref b] c cL_law 4 RL D cy) (G : LG s b L xs adC adM) (hST : STL s tL tM) (hR : RoL 40 R) (hcs : 117 ≤ R.cells ∧ 898 ≤ R.slots) (hi : i + 5 ≤ L) (hL : L ≤ 2560) (hw : LW D cy adC adM vC vM H) (hS : va_S (fun q => s.heap.size ≤ q) s.heap H locs) (hl : lv_has ls 4 [(0, .ref b), (1, .ref (adC 0)), (2, .ref (adM 0)), (3, .int (nI i))]) (hstep : ∀ (a0 a1 a2 : Int32), ∃ (r : Int32) (vC' vM' : VV), F_X10_way 0 a0 a1 a2 vC = some (r, vC') ∧ F_X11_way 0 a0 a1 a2 vM = some (r, vM') ∧ Inv vC' vM') (kk : ∀ (vC' vM' : VV) (H : Heap) (locs : List Loc), Inv vC' vM' → LW D cy adC adM vC' vM' H → va_S (fun q => s.heap.size ≤ q) s.heap H locs → W p l e R s m #[Value.ref b] below meth c H locs 117 898 Q (F0 m 854 ls [])) : W p l e R s m #[Value.ref b] below meth c H locs 117 898 Q (F0 m 319 ls []) := by
  obtain ⟨hPC, hPM⟩ := hw
  refine lv_aload_n (pc := 319) C.1 C.2.1 dL_law_319 rfl (lv_at hl 1 rfl) ?_
  refine lv_aload_n (pc := 320) C.1 C.2.1 dL_law_320 rfl (lv_at hl 0 rfl) ?_
  refine lv_iload_n (pc := 321) C.1 C.2.1 dL_law_321 rfl (lv_at hl 3 rfl) ?_
  refine lv_iconst (pc := 322) (v := 1) C.1 C.2.1 dL_law_322 (by decide) ?_
  refine lv_iadd (pc := 323) C.1 C.2.1 dL_law_323 ?_
  refine va_sld (pc := 324) C.1 C.2.1 G.1 G.2.1 (Nat.not_le.mpr G.2.1) hS (lg_in hi hL 1 1 (by decide) (by decide)) dL_law_324 ?_
  refine lv_aload_n (pc := 325) C.1 C.2.1 dL_law_325 rfl (lv_at hl 0 rfl) ?_
  refine lv_iload_n (pc := 326) C.1 C.2.1 dL_law_326 rfl (lv_at hl 3 rfl) ?_
  refine lv_iconst (pc := 327) (v := 2) C.1 C.2.1 dL_law_327 (by decide) ?_
  refine lv_iadd (pc := 328) C.1 C.2.1 dL_law_328 ?_
  refine va_sld (pc := 329) C.1 C.2.1 G.1 G.2.1 (Nat.not_le.mpr G.2.1) hS (lg_in hi hL 2 2 (by decide) (by decide)) dL_law_329 ?_
  refine lv_aload_n (pc := 330) C.1 C.2.1 dL_law_330 rfl (lv_at hl 0 rfl) ?_
  refine lv_iload_n (pc := 331) C.1 C.2.1 dL_law_331 rfl (lv_at hl 3 rfl) ?_
  refine lv_iconst (pc := 332) (v := 3) C.1 C.2.1 dL_law_332 (by decide) ?_
  refine lv_iadd (pc := 333) C.1 C.2.1 dL_law_333 ?_
  refine va_sld (pc := 334) C.1 C.2.1 G.1 G.2.1 (Nat.not_le.mpr G.2.1) hS (lg_in hi hL 3 3 (by decide) (by decide)) dL_law_334 ?_
  obtain ⟨r, vC', vM', hc1, hc2, hInv⟩ := hstep (xs (nI i + 1).toNatClampNeg) (xs (nI i + 2).toNatClampNeg) (xs (nI i + 3).toNatClampNeg)
  refine z_calli (pc := 335) C hPC hPM G.2.2.2.2.2.2 G.2.2.2.2.1 hS mi_X10_way ck_10 (k0C : wk LC 0 10) ml_L_38 (hR.le (by decide) : RoL (3 + 1) R) (Nat.le_trans (by decide) hcs.1) (Nat.le_trans (by decide) hcs.2) [.int (xs (nI i + 1).toNatClampNeg), .int (xs (nI i + 2).toNatClampNeg), .int (xs (nI i + 3).toNatClampNeg)] rfl hl.1 rfl (Nat.le_of_ble_eq_true rfl) dL_law_335 pcG_blind (pcG_law C hPC) (m_X10_way G.2.2.1 k0C hc1) (fun H locs hPC hPM hS => ?_)
  refine lv_aload_n (pc := 338) C.1 C.2.1 dL_law_338 rfl (lv_at hl 2 rfl) ?_
  refine lv_aload_n (pc := 339) C.1 C.2.1 dL_law_339 rfl (lv_at hl 0 rfl) ?_
  refine lv_iload_n (pc := 340) C.1 C.2.1 dL_law_340 rfl (lv_at hl 3 rfl) ?_
  refine lv_iconst (pc := 341) (v := 1) C.1 C.2.1 dL_law_341 (by decide) ?_
  refine lv_iadd (pc := 342) C.1 C.2.1 dL_law_342 ?_
  refine va_sld (pc := 343) C.1 C.2.1 G.1 G.2.1 (Nat.not_le.mpr G.2.1) hS (lg_in hi hL 1 1 (by decide) (by decide)) dL_law_343 ?_
  refine lv_aload_n (pc := 344) C.1 C.2.1 dL_law_344 rfl (lv_at hl 0 rfl) ?_
  refine lv_iload_n (pc := 345) C.1 C.2.1 dL_law_345 rfl (lv_at hl 3 rfl) ?_
  refine lv_iconst (pc := 346) (v := 2) C.1 C.2.1 dL_law_346 (by decide) ?_
  refine lv_iadd (pc := 347) C.1 C.2.1 dL_law_347 ?_
  refine va_sld (pc := 348) C.1 C.2.1 G.1 G.2.1 (Nat.not_le.mpr G.2.1) hS (lg_in hi hL 2 2 (by decide) (by decide)) dL_law_348 ?_
  refine lv_aload_n (pc := 349) C.1 C.2.1 dL_law_349 rfl (lv_at hl 0 rfl) ?_
  refine lv_iload_n (pc := 350) C.1 C.2.1 dL_law_350 rfl (lv_at hl 3 rfl) ?_
  refine lv_iconst (pc := 351) (v := 3) C.1 C.2.1 dL_law_351 (by decide) ?_
  refine lv_iadd (pc := 352) C.1 C.2.1 dL_law_352 ?_
  refine va_sld (pc := 353) C.1 C.2.1 G.1 G.2.1 (Nat.not_le.mpr G.2.1) hS (lg_in hi hL 3 3 (by decide) (by decide)) dL_law_353 ?_
  refine z_calli (pc := 354) C hPM hPC (fun i j hi hj h => G.2.2.2.2.2.2 j i hj hi h.symm) G.2.2.2.2.2.1 hS mi_X11_way ck_11 (k0M : wk LM 0 11) ml_L_41 (hR.le (by decide) : RoL (3 + 1) R) (Nat.le_trans (by decide) hcs.1) (Nat.le_trans (by decide) hcs.2) [.int (xs (nI i + 1).toNatClampNeg), .int (xs (nI i + 2).toNatClampNeg), .int (xs (nI i + 3).toNatClampNeg)] rfl hl.1 rfl (Nat.le_of_ble_eq_true rfl) dL_law_354 pcG_blind (pcG_law C hPM) (m_X11_way G.2.2.2.1 k0M hc2) (fun H locs hPM hPC hS => ?_)
  refine lv_icmp_eq (pc := 357) (tgt := 854) C.1 C.2.1 dL_law_357 (by decide) (fun _ => ?_) (fun h => absurd rfl h)
  exact kk _ _ _ _ hInv ⟨hPC, hPM⟩ hS
set_option maxHeartbeats 4000000 in
set_option maxRecDepth 100000 in
theorem law_c6 {Inv : VV → VV → Prop} (C : Cx p s m #[Value.ref b] c cL_law 4 RL D cy) (G : LG s b L xs adC adM) (hST : STL s tL tM) (hR : RoL 40 R) (hcs : 117 ≤ R.cells ∧ 898 ≤ R.slots) (hi : i + 5 ≤ L) (hL : L ≤ 2560) (hw : LW D cy adC adM vC vM H) (hS : va_S (fun q => s.heap.size ≤ q) s.heap H locs) (hl : lv_has ls 4 [(0, .ref b), (1, .ref (adC 0)), (2, .ref (adM 0)), (3, .int (nI i))]) (hstep : ∀ (a0 a1 : Int32), ∃ (r : Int32) (vC' vM' : VV), F_X10_ofPort 0 a0 a1 vC = some (r, vC') ∧ F_X11_ofPort 0 a0 a1 vM = some (r, vM') ∧ Inv vC' vM') (kk : ∀ (vC' vM' : VV) (H : Heap) (locs : List Loc), Inv vC' vM' → LW D cy adC adM vC' vM' H → va_S (fun q => s.heap.size ≤ q) s.heap H locs → W p l e R s m #[Value.ref b] below meth c H locs 117 898 Q (F0 m 854 ls [])) : W p l e R s m #[Value.ref b] below meth c H locs 117 898 Q (F0 m 362 ls []) := by
  obtain ⟨hPC, hPM⟩ := hw
  refine lv_aload_n (pc := 362) C.1 C.2.1 dL_law_362 rfl (lv_at hl 1 rfl) ?_
  refine lv_aload_n (pc := 363) C.1 C.2.1 dL_law_363 rfl (lv_at hl 0 rfl) ?_
  refine lv_iload_n (pc := 364) C.1 C.2.1 dL_law_364 rfl (lv_at hl 3 rfl) ?_
  refine lv_iconst (pc := 365) (v := 1) C.1 C.2.1 dL_law_365 (by decide) ?_
  refine lv_iadd (pc := 366) C.1 C.2.1 dL_law_366 ?_
  refine va_sld (pc := 367) C.1 C.2.1 G.1 G.2.1 (Nat.not_le.mpr G.2.1) hS (lg_in hi hL 1 1 (by decide) (by decide)) dL_law_367 ?_
  refine lv_aload_n (pc := 368) C.1 C.2.1 dL_law_368 rfl (lv_at hl 0 rfl) ?_
  refine lv_iload_n (pc := 369) C.1 C.2.1 dL_law_369 rfl (lv_at hl 3 rfl) ?_
  refine lv_iconst (pc := 370) (v := 2) C.1 C.2.1 dL_law_370 (by decide) ?_
  refine lv_iadd (pc := 371) C.1 C.2.1 dL_law_371 ?_
  refine va_sld (pc := 372) C.1 C.2.1 G.1 G.2.1 (Nat.not_le.mpr G.2.1) hS (lg_in hi hL 2 2 (by decide) (by decide)) dL_law_372 ?_
  obtain ⟨r, vC', vM', hc1, hc2, hInv⟩ := hstep (xs (nI i + 1).toNatClampNeg) (xs (nI i + 2).toNatClampNeg)
  refine z_calli (pc := 373) C hPC hPM G.2.2.2.2.2.2 G.2.2.2.2.1 hS mi_X10_ofPort ck_10 (k0C : wk LC 0 10) ml_L_42 (hR.le (by decide) : RoL (3 + 1) R) (Nat.le_trans (by decide) hcs.1) (Nat.le_trans (by decide) hcs.2) [.int (xs (nI i + 1).toNatClampNeg), .int (xs (nI i + 2).toNatClampNeg)] rfl hl.1 rfl (Nat.le_of_ble_eq_true rfl) dL_law_373 pcG_blind (pcG_law C hPC) (m_X10_ofPort G.2.2.1 k0C hc1) (fun H locs hPC hPM hS => ?_)
  refine lv_aload_n (pc := 376) C.1 C.2.1 dL_law_376 rfl (lv_at hl 2 rfl) ?_
  refine lv_aload_n (pc := 377) C.1 C.2.1 dL_law_377 rfl (lv_at hl 0 rfl) ?_
  refine lv_iload_n (pc := 378) C.1 C.2.1 dL_law_378 rfl (lv_at hl 3 rfl) ?_
  refine lv_iconst (pc := 379) (v := 1) C.1 C.2.1 dL_law_379 (by decide) ?_
  refine lv_iadd (pc := 380) C.1 C.2.1 dL_law_380 ?_
  refine va_sld (pc := 381) C.1 C.2.1 G.1 G.2.1 (Nat.not_le.mpr G.2.1) hS (lg_in hi hL 1 1 (by decide) (by decide)) dL_law_381 ?_
  refine lv_aload_n (pc := 382) C.1 C.2.1 dL_law_382 rfl (lv_at hl 0 rfl) ?_
  refine lv_iload_n (pc := 383) C.1 C.2.1 dL_law_383 rfl (lv_at hl 3 rfl) ?_
  refine lv_iconst (pc := 384) (v := 2) C.1 C.2.1 dL_law_384 (by decide) ?_
  refine lv_iadd (pc := 385) C.1 C.2.1 dL_law_385 ?_
  refine va_sld (pc := 386) C.1 C.2.1 G.1 G.2.1 (Nat.not_le.mpr G.2.1) hS (lg_in hi hL 2 2 (by decide) (by decide)) dL_law_386 ?_
  refine z_calli (pc := 387) C hPM hPC (fun i j hi hj h => G.2.2.2.2.2.2 j i hj hi h.symm) G.2.2.2.2.2.1 hS mi_X11_ofPort ck_11 (k0M : wk LM 0 11) ml_L_45 (hR.le (by decide) : RoL (3 + 1) R) (Nat.le_trans (by decide) hcs.1) (Nat.le_trans (by decide) hcs.2) [.int (xs (nI i + 1).toNatClampNeg), .int (xs (nI i + 2).toNatClampNeg)] rfl hl.1 rfl (Nat.le_of_ble_eq_true rfl) dL_law_387 pcG_blind (pcG_law C hPM) (m_X11_ofPort G.2.2.2.1 k0M hc2) (fun H locs hPM hPC hS => ?_)
  refine lv_icmp_eq (pc := 390) (tgt := 854) C.1 C.2.1 dL_law_390 (by decide) (fun _ => ?_) (fun h => absurd rfl h)
  exact kk _ _ _ _ hInv ⟨hPC, hPM⟩ hS
set_option maxHeartbeats 4000000 in
set_option maxRecDepth 100000 in
theorem law_c7 {Inv : VV → VV → Prop} (C : Cx p s m #[Value.ref b] c cL_law 4 RL D cy) (G : LG s b L xs adC adM) (hST : STL s tL tM) (hR : RoL 40 R) (hcs : 117 ≤ R.cells ∧ 898 ≤ R.slots) (hi : i + 5 ≤ L) (hL : L ≤ 2560) (hw : LW D cy adC adM vC vM H) (hS : va_S (fun q => s.heap.size ≤ q) s.heap H locs) (hl : lv_has ls 4 [(0, .ref b), (1, .ref (adC 0)), (2, .ref (adM 0)), (3, .int (nI i))]) (hstep : ∀ (a0 : Int32), ∃ (r : Int32) (vC' vM' : VV), F_X10_tick 0 a0 vC = some (r, vC') ∧ F_X11_tick 0 a0 vM = some (r, vM') ∧ Inv vC' vM') (kk : ∀ (vC' vM' : VV) (H : Heap) (locs : List Loc), Inv vC' vM' → LW D cy adC adM vC' vM' H → va_S (fun q => s.heap.size ≤ q) s.heap H locs → W p l e R s m #[Value.ref b] below meth c H locs 117 898 Q (F0 m 854 ls [])) : W p l e R s m #[Value.ref b] below meth c H locs 117 898 Q (F0 m 395 ls []) := by
  obtain ⟨hPC, hPM⟩ := hw
  refine lv_aload_n (pc := 395) C.1 C.2.1 dL_law_395 rfl (lv_at hl 1 rfl) ?_
  refine lv_aload_n (pc := 396) C.1 C.2.1 dL_law_396 rfl (lv_at hl 0 rfl) ?_
  refine lv_iload_n (pc := 397) C.1 C.2.1 dL_law_397 rfl (lv_at hl 3 rfl) ?_
  refine lv_iconst (pc := 398) (v := 1) C.1 C.2.1 dL_law_398 (by decide) ?_
  refine lv_iadd (pc := 399) C.1 C.2.1 dL_law_399 ?_
  refine va_sld (pc := 400) C.1 C.2.1 G.1 G.2.1 (Nat.not_le.mpr G.2.1) hS (lg_in hi hL 1 1 (by decide) (by decide)) dL_law_400 ?_
  obtain ⟨r, vC', vM', hc1, hc2, hInv⟩ := hstep (xs (nI i + 1).toNatClampNeg)
  refine z_calli (pc := 401) C hPC hPM G.2.2.2.2.2.2 G.2.2.2.2.1 hS mi_X10_tick ck_10 (k0C : wk LC 0 10) ml_L_46 (hR.le (by decide) : RoL (5 + 1) R) (Nat.le_trans (by decide) hcs.1) (Nat.le_trans (by decide) hcs.2) [.int (xs (nI i + 1).toNatClampNeg)] rfl hl.1 rfl (Nat.le_of_ble_eq_true rfl) dL_law_401 pcG_blind (pcG_law C hPC) (m_X10_tick G.2.2.1 k0C hc1) (fun H locs hPC hPM hS => ?_)
  refine lv_aload_n (pc := 404) C.1 C.2.1 dL_law_404 rfl (lv_at hl 2 rfl) ?_
  refine lv_aload_n (pc := 405) C.1 C.2.1 dL_law_405 rfl (lv_at hl 0 rfl) ?_
  refine lv_iload_n (pc := 406) C.1 C.2.1 dL_law_406 rfl (lv_at hl 3 rfl) ?_
  refine lv_iconst (pc := 407) (v := 1) C.1 C.2.1 dL_law_407 (by decide) ?_
  refine lv_iadd (pc := 408) C.1 C.2.1 dL_law_408 ?_
  refine va_sld (pc := 409) C.1 C.2.1 G.1 G.2.1 (Nat.not_le.mpr G.2.1) hS (lg_in hi hL 1 1 (by decide) (by decide)) dL_law_409 ?_
  refine z_calli (pc := 410) C hPM hPC (fun i j hi hj h => G.2.2.2.2.2.2 j i hj hi h.symm) G.2.2.2.2.2.1 hS mi_X11_tick ck_11 (k0M : wk LM 0 11) ml_L_50 (hR.le (by decide) : RoL (3 + 1) R) (Nat.le_trans (by decide) hcs.1) (Nat.le_trans (by decide) hcs.2) [.int (xs (nI i + 1).toNatClampNeg)] rfl hl.1 rfl (Nat.le_of_ble_eq_true rfl) dL_law_410 pcG_blind (pcG_law C hPM) (m_X11_tick G.2.2.2.1 k0M hc2) (fun H locs hPM hPC hS => ?_)
  refine lv_icmp_eq (pc := 413) (tgt := 854) C.1 C.2.1 dL_law_413 (by decide) (fun _ => ?_) (fun h => absurd rfl h)
  exact kk _ _ _ _ hInv ⟨hPC, hPM⟩ hS
set_option maxHeartbeats 4000000 in
set_option maxRecDepth 100000 in
theorem law_c8 {Inv : VV → VV → Prop} (C : Cx p s m #[Value.ref b] c cL_law 4 RL D cy) (G : LG s b L xs adC adM) (hST : STL s tL tM) (hR : RoL 40 R) (hcs : 117 ≤ R.cells ∧ 898 ≤ R.slots) (hi : i + 5 ≤ L) (hL : L ≤ 2560) (hw : LW D cy adC adM vC vM H) (hS : va_S (fun q => s.heap.size ≤ q) s.heap H locs) (hl : lv_has ls 4 [(0, .ref b), (1, .ref (adC 0)), (2, .ref (adM 0)), (3, .int (nI i))]) (hstep : ∀ (a0 a1 a2 a3 : Int32), ∃ (r : Int32) (vC' vM' : VV), F_X10_event 0 a0 a1 a2 a3 vC = some (r, vC') ∧ F_X11_event 0 a0 a1 a2 a3 vM = some (r, vM') ∧ Inv vC' vM') (kk : ∀ (vC' vM' : VV) (H : Heap) (locs : List Loc), Inv vC' vM' → LW D cy adC adM vC' vM' H → va_S (fun q => s.heap.size ≤ q) s.heap H locs → W p l e R s m #[Value.ref b] below meth c H locs 117 898 Q (F0 m 854 ls [])) : W p l e R s m #[Value.ref b] below meth c H locs 117 898 Q (F0 m 418 ls []) := by
  obtain ⟨hPC, hPM⟩ := hw
  refine lv_aload_n (pc := 418) C.1 C.2.1 dL_law_418 rfl (lv_at hl 1 rfl) ?_
  refine lv_aload_n (pc := 419) C.1 C.2.1 dL_law_419 rfl (lv_at hl 0 rfl) ?_
  refine lv_iload_n (pc := 420) C.1 C.2.1 dL_law_420 rfl (lv_at hl 3 rfl) ?_
  refine lv_iconst (pc := 421) (v := 1) C.1 C.2.1 dL_law_421 (by decide) ?_
  refine lv_iadd (pc := 422) C.1 C.2.1 dL_law_422 ?_
  refine va_sld (pc := 423) C.1 C.2.1 G.1 G.2.1 (Nat.not_le.mpr G.2.1) hS (lg_in hi hL 1 1 (by decide) (by decide)) dL_law_423 ?_
  refine lv_aload_n (pc := 424) C.1 C.2.1 dL_law_424 rfl (lv_at hl 0 rfl) ?_
  refine lv_iload_n (pc := 425) C.1 C.2.1 dL_law_425 rfl (lv_at hl 3 rfl) ?_
  refine lv_iconst (pc := 426) (v := 2) C.1 C.2.1 dL_law_426 (by decide) ?_
  refine lv_iadd (pc := 427) C.1 C.2.1 dL_law_427 ?_
  refine va_sld (pc := 428) C.1 C.2.1 G.1 G.2.1 (Nat.not_le.mpr G.2.1) hS (lg_in hi hL 2 2 (by decide) (by decide)) dL_law_428 ?_
  refine lv_aload_n (pc := 429) C.1 C.2.1 dL_law_429 rfl (lv_at hl 0 rfl) ?_
  refine lv_iload_n (pc := 430) C.1 C.2.1 dL_law_430 rfl (lv_at hl 3 rfl) ?_
  refine lv_iconst (pc := 431) (v := 3) C.1 C.2.1 dL_law_431 (by decide) ?_
  refine lv_iadd (pc := 432) C.1 C.2.1 dL_law_432 ?_
  refine va_sld (pc := 433) C.1 C.2.1 G.1 G.2.1 (Nat.not_le.mpr G.2.1) hS (lg_in hi hL 3 3 (by decide) (by decide)) dL_law_433 ?_
  refine lv_aload_n (pc := 434) C.1 C.2.1 dL_law_434 rfl (lv_at hl 0 rfl) ?_
  refine lv_iload_n (pc := 435) C.1 C.2.1 dL_law_435 rfl (lv_at hl 3 rfl) ?_
  refine lv_iconst (pc := 436) (v := 4) C.1 C.2.1 dL_law_436 (by decide) ?_
  refine lv_iadd (pc := 437) C.1 C.2.1 dL_law_437 ?_
  refine va_sld (pc := 438) C.1 C.2.1 G.1 G.2.1 (Nat.not_le.mpr G.2.1) hS (lg_in hi hL 4 4 (by decide) (by decide)) dL_law_438 ?_
  obtain ⟨r, vC', vM', hc1, hc2, hInv⟩ := hstep (xs (nI i + 1).toNatClampNeg) (xs (nI i + 2).toNatClampNeg) (xs (nI i + 3).toNatClampNeg) (xs (nI i + 4).toNatClampNeg)
  refine z_calli (pc := 439) C hPC hPM G.2.2.2.2.2.2 G.2.2.2.2.1 hS mi_X10_event ck_10 (k0C : wk LC 0 10) ml_L_51 (hR.le (by decide) : RoL (3 + 1) R) (Nat.le_trans (by decide) hcs.1) (Nat.le_trans (by decide) hcs.2) [.int (xs (nI i + 1).toNatClampNeg), .int (xs (nI i + 2).toNatClampNeg), .int (xs (nI i + 3).toNatClampNeg), .int (xs (nI i + 4).toNatClampNeg)] rfl hl.1 rfl (Nat.le_of_ble_eq_true rfl) dL_law_439 pcG_blind (pcG_law C hPC) (m_X10_event G.2.2.1 k0C hc1) (fun H locs hPC hPM hS => ?_)
  refine lv_aload_n (pc := 442) C.1 C.2.1 dL_law_442 rfl (lv_at hl 2 rfl) ?_
  refine lv_aload_n (pc := 443) C.1 C.2.1 dL_law_443 rfl (lv_at hl 0 rfl) ?_
  refine lv_iload_n (pc := 444) C.1 C.2.1 dL_law_444 rfl (lv_at hl 3 rfl) ?_
  refine lv_iconst (pc := 445) (v := 1) C.1 C.2.1 dL_law_445 (by decide) ?_
  refine lv_iadd (pc := 446) C.1 C.2.1 dL_law_446 ?_
  refine va_sld (pc := 447) C.1 C.2.1 G.1 G.2.1 (Nat.not_le.mpr G.2.1) hS (lg_in hi hL 1 1 (by decide) (by decide)) dL_law_447 ?_
  refine lv_aload_n (pc := 448) C.1 C.2.1 dL_law_448 rfl (lv_at hl 0 rfl) ?_
  refine lv_iload_n (pc := 449) C.1 C.2.1 dL_law_449 rfl (lv_at hl 3 rfl) ?_
  refine lv_iconst (pc := 450) (v := 2) C.1 C.2.1 dL_law_450 (by decide) ?_
  refine lv_iadd (pc := 451) C.1 C.2.1 dL_law_451 ?_
  refine va_sld (pc := 452) C.1 C.2.1 G.1 G.2.1 (Nat.not_le.mpr G.2.1) hS (lg_in hi hL 2 2 (by decide) (by decide)) dL_law_452 ?_
  refine lv_aload_n (pc := 453) C.1 C.2.1 dL_law_453 rfl (lv_at hl 0 rfl) ?_
  refine lv_iload_n (pc := 454) C.1 C.2.1 dL_law_454 rfl (lv_at hl 3 rfl) ?_
  refine lv_iconst (pc := 455) (v := 3) C.1 C.2.1 dL_law_455 (by decide) ?_
  refine lv_iadd (pc := 456) C.1 C.2.1 dL_law_456 ?_
  refine va_sld (pc := 457) C.1 C.2.1 G.1 G.2.1 (Nat.not_le.mpr G.2.1) hS (lg_in hi hL 3 3 (by decide) (by decide)) dL_law_457 ?_
  refine lv_aload_n (pc := 458) C.1 C.2.1 dL_law_458 rfl (lv_at hl 0 rfl) ?_
  refine lv_iload_n (pc := 459) C.1 C.2.1 dL_law_459 rfl (lv_at hl 3 rfl) ?_
  refine lv_iconst (pc := 460) (v := 4) C.1 C.2.1 dL_law_460 (by decide) ?_
  refine lv_iadd (pc := 461) C.1 C.2.1 dL_law_461 ?_
  refine va_sld (pc := 462) C.1 C.2.1 G.1 G.2.1 (Nat.not_le.mpr G.2.1) hS (lg_in hi hL 4 4 (by decide) (by decide)) dL_law_462 ?_
  refine z_calli (pc := 463) C hPM hPC (fun i j hi hj h => G.2.2.2.2.2.2 j i hj hi h.symm) G.2.2.2.2.2.1 hS mi_X11_event ck_11 (k0M : wk LM 0 11) ml_L_54 (hR.le (by decide) : RoL (3 + 1) R) (Nat.le_trans (by decide) hcs.1) (Nat.le_trans (by decide) hcs.2) [.int (xs (nI i + 1).toNatClampNeg), .int (xs (nI i + 2).toNatClampNeg), .int (xs (nI i + 3).toNatClampNeg), .int (xs (nI i + 4).toNatClampNeg)] rfl hl.1 rfl (Nat.le_of_ble_eq_true rfl) dL_law_463 pcG_blind (pcG_law C hPM) (m_X11_event G.2.2.2.1 k0M hc2) (fun H locs hPM hPC hS => ?_)
  refine lv_icmp_eq (pc := 466) (tgt := 854) C.1 C.2.1 dL_law_466 (by decide) (fun _ => ?_) (fun h => absurd rfl h)
  exact kk _ _ _ _ hInv ⟨hPC, hPM⟩ hS
set_option maxHeartbeats 4000000 in
set_option maxRecDepth 100000 in
theorem law_c9 {Inv : VV → VV → Prop} (C : Cx p s m #[Value.ref b] c cL_law 4 RL D cy) (G : LG s b L xs adC adM) (hST : STL s tL tM) (hR : RoL 40 R) (hcs : 117 ≤ R.cells ∧ 898 ≤ R.slots) (hi : i + 5 ≤ L) (hL : L ≤ 2560) (hw : LW D cy adC adM vC vM H) (hS : va_S (fun q => s.heap.size ≤ q) s.heap H locs) (hl : lv_has ls 4 [(0, .ref b), (1, .ref (adC 0)), (2, .ref (adM 0)), (3, .int (nI i))]) (hstep : ∀ (a0 a1 a2 : Int32), ∃ (r : Int32) (vC' vM' : VV), F_X10_ship 0 a0 a1 a2 vC = some (r, vC') ∧ F_X11_ship 0 a0 a1 a2 vM = some (r, vM') ∧ Inv vC' vM') (kk : ∀ (vC' vM' : VV) (H : Heap) (locs : List Loc), Inv vC' vM' → LW D cy adC adM vC' vM' H → va_S (fun q => s.heap.size ≤ q) s.heap H locs → W p l e R s m #[Value.ref b] below meth c H locs 117 898 Q (F0 m 854 ls [])) : W p l e R s m #[Value.ref b] below meth c H locs 117 898 Q (F0 m 471 ls []) := by
  obtain ⟨hPC, hPM⟩ := hw
  refine lv_aload_n (pc := 471) C.1 C.2.1 dL_law_471 rfl (lv_at hl 1 rfl) ?_
  refine lv_aload_n (pc := 472) C.1 C.2.1 dL_law_472 rfl (lv_at hl 0 rfl) ?_
  refine lv_iload_n (pc := 473) C.1 C.2.1 dL_law_473 rfl (lv_at hl 3 rfl) ?_
  refine lv_iconst (pc := 474) (v := 1) C.1 C.2.1 dL_law_474 (by decide) ?_
  refine lv_iadd (pc := 475) C.1 C.2.1 dL_law_475 ?_
  refine va_sld (pc := 476) C.1 C.2.1 G.1 G.2.1 (Nat.not_le.mpr G.2.1) hS (lg_in hi hL 1 1 (by decide) (by decide)) dL_law_476 ?_
  refine lv_aload_n (pc := 477) C.1 C.2.1 dL_law_477 rfl (lv_at hl 0 rfl) ?_
  refine lv_iload_n (pc := 478) C.1 C.2.1 dL_law_478 rfl (lv_at hl 3 rfl) ?_
  refine lv_iconst (pc := 479) (v := 2) C.1 C.2.1 dL_law_479 (by decide) ?_
  refine lv_iadd (pc := 480) C.1 C.2.1 dL_law_480 ?_
  refine va_sld (pc := 481) C.1 C.2.1 G.1 G.2.1 (Nat.not_le.mpr G.2.1) hS (lg_in hi hL 2 2 (by decide) (by decide)) dL_law_481 ?_
  refine lv_aload_n (pc := 482) C.1 C.2.1 dL_law_482 rfl (lv_at hl 0 rfl) ?_
  refine lv_iload_n (pc := 483) C.1 C.2.1 dL_law_483 rfl (lv_at hl 3 rfl) ?_
  refine lv_iconst (pc := 484) (v := 3) C.1 C.2.1 dL_law_484 (by decide) ?_
  refine lv_iadd (pc := 485) C.1 C.2.1 dL_law_485 ?_
  refine va_sld (pc := 486) C.1 C.2.1 G.1 G.2.1 (Nat.not_le.mpr G.2.1) hS (lg_in hi hL 3 3 (by decide) (by decide)) dL_law_486 ?_
  obtain ⟨r, vC', vM', hc1, hc2, hInv⟩ := hstep (xs (nI i + 1).toNatClampNeg) (xs (nI i + 2).toNatClampNeg) (xs (nI i + 3).toNatClampNeg)
  refine z_calli (pc := 487) C hPC hPM G.2.2.2.2.2.2 G.2.2.2.2.1 hS mi_X10_ship ck_10 (k0C : wk LC 0 10) ml_L_55 (hR.le (by decide) : RoL (3 + 1) R) (Nat.le_trans (by decide) hcs.1) (Nat.le_trans (by decide) hcs.2) [.int (xs (nI i + 1).toNatClampNeg), .int (xs (nI i + 2).toNatClampNeg), .int (xs (nI i + 3).toNatClampNeg)] rfl hl.1 rfl (Nat.le_of_ble_eq_true rfl) dL_law_487 pcG_blind (pcG_law C hPC) (m_X10_ship G.2.2.1 k0C hc1) (fun H locs hPC hPM hS => ?_)
  refine lv_aload_n (pc := 490) C.1 C.2.1 dL_law_490 rfl (lv_at hl 2 rfl) ?_
  refine lv_aload_n (pc := 491) C.1 C.2.1 dL_law_491 rfl (lv_at hl 0 rfl) ?_
  refine lv_iload_n (pc := 492) C.1 C.2.1 dL_law_492 rfl (lv_at hl 3 rfl) ?_
  refine lv_iconst (pc := 493) (v := 1) C.1 C.2.1 dL_law_493 (by decide) ?_
  refine lv_iadd (pc := 494) C.1 C.2.1 dL_law_494 ?_
  refine va_sld (pc := 495) C.1 C.2.1 G.1 G.2.1 (Nat.not_le.mpr G.2.1) hS (lg_in hi hL 1 1 (by decide) (by decide)) dL_law_495 ?_
  refine lv_aload_n (pc := 496) C.1 C.2.1 dL_law_496 rfl (lv_at hl 0 rfl) ?_
  refine lv_iload_n (pc := 497) C.1 C.2.1 dL_law_497 rfl (lv_at hl 3 rfl) ?_
  refine lv_iconst (pc := 498) (v := 2) C.1 C.2.1 dL_law_498 (by decide) ?_
  refine lv_iadd (pc := 499) C.1 C.2.1 dL_law_499 ?_
  refine va_sld (pc := 500) C.1 C.2.1 G.1 G.2.1 (Nat.not_le.mpr G.2.1) hS (lg_in hi hL 2 2 (by decide) (by decide)) dL_law_500 ?_
  refine lv_aload_n (pc := 501) C.1 C.2.1 dL_law_501 rfl (lv_at hl 0 rfl) ?_
  refine lv_iload_n (pc := 502) C.1 C.2.1 dL_law_502 rfl (lv_at hl 3 rfl) ?_
  refine lv_iconst (pc := 503) (v := 3) C.1 C.2.1 dL_law_503 (by decide) ?_
  refine lv_iadd (pc := 504) C.1 C.2.1 dL_law_504 ?_
  refine va_sld (pc := 505) C.1 C.2.1 G.1 G.2.1 (Nat.not_le.mpr G.2.1) hS (lg_in hi hL 3 3 (by decide) (by decide)) dL_law_505 ?_
  refine z_calli (pc := 506) C hPM hPC (fun i j hi hj h => G.2.2.2.2.2.2 j i hj hi h.symm) G.2.2.2.2.2.1 hS mi_X11_ship ck_11 (k0M : wk LM 0 11) ml_L_58 (hR.le (by decide) : RoL (3 + 1) R) (Nat.le_trans (by decide) hcs.1) (Nat.le_trans (by decide) hcs.2) [.int (xs (nI i + 1).toNatClampNeg), .int (xs (nI i + 2).toNatClampNeg), .int (xs (nI i + 3).toNatClampNeg)] rfl hl.1 rfl (Nat.le_of_ble_eq_true rfl) dL_law_506 pcG_blind (pcG_law C hPM) (m_X11_ship G.2.2.2.1 k0M hc2) (fun H locs hPM hPC hS => ?_)
  refine lv_icmp_eq (pc := 509) (tgt := 854) C.1 C.2.1 dL_law_509 (by decide) (fun _ => ?_) (fun h => absurd rfl h)
  exact kk _ _ _ _ hInv ⟨hPC, hPM⟩ hS
set_option maxHeartbeats 4000000 in
set_option maxRecDepth 100000 in
theorem law_c10 {Inv : VV → VV → Prop} (C : Cx p s m #[Value.ref b] c cL_law 4 RL D cy) (G : LG s b L xs adC adM) (hST : STL s tL tM) (hR : RoL 40 R) (hcs : 117 ≤ R.cells ∧ 898 ≤ R.slots) (hi : i + 5 ≤ L) (hL : L ≤ 2560) (hw : LW D cy adC adM vC vM H) (hS : va_S (fun q => s.heap.size ≤ q) s.heap H locs) (hl : lv_has ls 4 [(0, .ref b), (1, .ref (adC 0)), (2, .ref (adM 0)), (3, .int (nI i))]) (hstep : ∀ (a0 a1 a2 : Int32), ∃ (r : Int32) (vC' vM' : VV), F_X10_buy 0 a0 a1 a2 vC = some (r, vC') ∧ F_X11_buy 0 a0 a1 a2 vM = some (r, vM') ∧ Inv vC' vM') (kk : ∀ (vC' vM' : VV) (H : Heap) (locs : List Loc), Inv vC' vM' → LW D cy adC adM vC' vM' H → va_S (fun q => s.heap.size ≤ q) s.heap H locs → W p l e R s m #[Value.ref b] below meth c H locs 117 898 Q (F0 m 854 ls [])) : W p l e R s m #[Value.ref b] below meth c H locs 117 898 Q (F0 m 514 ls []) := by
  obtain ⟨hPC, hPM⟩ := hw
  refine lv_aload_n (pc := 514) C.1 C.2.1 dL_law_514 rfl (lv_at hl 1 rfl) ?_
  refine lv_aload_n (pc := 515) C.1 C.2.1 dL_law_515 rfl (lv_at hl 0 rfl) ?_
  refine lv_iload_n (pc := 516) C.1 C.2.1 dL_law_516 rfl (lv_at hl 3 rfl) ?_
  refine lv_iconst (pc := 517) (v := 1) C.1 C.2.1 dL_law_517 (by decide) ?_
  refine lv_iadd (pc := 518) C.1 C.2.1 dL_law_518 ?_
  refine va_sld (pc := 519) C.1 C.2.1 G.1 G.2.1 (Nat.not_le.mpr G.2.1) hS (lg_in hi hL 1 1 (by decide) (by decide)) dL_law_519 ?_
  refine lv_aload_n (pc := 520) C.1 C.2.1 dL_law_520 rfl (lv_at hl 0 rfl) ?_
  refine lv_iload_n (pc := 521) C.1 C.2.1 dL_law_521 rfl (lv_at hl 3 rfl) ?_
  refine lv_iconst (pc := 522) (v := 2) C.1 C.2.1 dL_law_522 (by decide) ?_
  refine lv_iadd (pc := 523) C.1 C.2.1 dL_law_523 ?_
  refine va_sld (pc := 524) C.1 C.2.1 G.1 G.2.1 (Nat.not_le.mpr G.2.1) hS (lg_in hi hL 2 2 (by decide) (by decide)) dL_law_524 ?_
  refine lv_aload_n (pc := 525) C.1 C.2.1 dL_law_525 rfl (lv_at hl 0 rfl) ?_
  refine lv_iload_n (pc := 526) C.1 C.2.1 dL_law_526 rfl (lv_at hl 3 rfl) ?_
  refine lv_iconst (pc := 527) (v := 3) C.1 C.2.1 dL_law_527 (by decide) ?_
  refine lv_iadd (pc := 528) C.1 C.2.1 dL_law_528 ?_
  refine va_sld (pc := 529) C.1 C.2.1 G.1 G.2.1 (Nat.not_le.mpr G.2.1) hS (lg_in hi hL 3 3 (by decide) (by decide)) dL_law_529 ?_
  obtain ⟨r, vC', vM', hc1, hc2, hInv⟩ := hstep (xs (nI i + 1).toNatClampNeg) (xs (nI i + 2).toNatClampNeg) (xs (nI i + 3).toNatClampNeg)
  refine z_calli (pc := 530) C hPC hPM G.2.2.2.2.2.2 G.2.2.2.2.1 hS mi_X10_buy ck_10 (k0C : wk LC 0 10) ml_L_59 (hR.le (by decide) : RoL (4 + 1) R) (Nat.le_trans (by decide) hcs.1) (Nat.le_trans (by decide) hcs.2) [.int (xs (nI i + 1).toNatClampNeg), .int (xs (nI i + 2).toNatClampNeg), .int (xs (nI i + 3).toNatClampNeg)] rfl hl.1 rfl (Nat.le_of_ble_eq_true rfl) dL_law_530 pcG_blind (pcG_law C hPC) (m_X10_buy G.2.2.1 k0C hc1) (fun H locs hPC hPM hS => ?_)
  refine lv_aload_n (pc := 533) C.1 C.2.1 dL_law_533 rfl (lv_at hl 2 rfl) ?_
  refine lv_aload_n (pc := 534) C.1 C.2.1 dL_law_534 rfl (lv_at hl 0 rfl) ?_
  refine lv_iload_n (pc := 535) C.1 C.2.1 dL_law_535 rfl (lv_at hl 3 rfl) ?_
  refine lv_iconst (pc := 536) (v := 1) C.1 C.2.1 dL_law_536 (by decide) ?_
  refine lv_iadd (pc := 537) C.1 C.2.1 dL_law_537 ?_
  refine va_sld (pc := 538) C.1 C.2.1 G.1 G.2.1 (Nat.not_le.mpr G.2.1) hS (lg_in hi hL 1 1 (by decide) (by decide)) dL_law_538 ?_
  refine lv_aload_n (pc := 539) C.1 C.2.1 dL_law_539 rfl (lv_at hl 0 rfl) ?_
  refine lv_iload_n (pc := 540) C.1 C.2.1 dL_law_540 rfl (lv_at hl 3 rfl) ?_
  refine lv_iconst (pc := 541) (v := 2) C.1 C.2.1 dL_law_541 (by decide) ?_
  refine lv_iadd (pc := 542) C.1 C.2.1 dL_law_542 ?_
  refine va_sld (pc := 543) C.1 C.2.1 G.1 G.2.1 (Nat.not_le.mpr G.2.1) hS (lg_in hi hL 2 2 (by decide) (by decide)) dL_law_543 ?_
  refine lv_aload_n (pc := 544) C.1 C.2.1 dL_law_544 rfl (lv_at hl 0 rfl) ?_
  refine lv_iload_n (pc := 545) C.1 C.2.1 dL_law_545 rfl (lv_at hl 3 rfl) ?_
  refine lv_iconst (pc := 546) (v := 3) C.1 C.2.1 dL_law_546 (by decide) ?_
  refine lv_iadd (pc := 547) C.1 C.2.1 dL_law_547 ?_
  refine va_sld (pc := 548) C.1 C.2.1 G.1 G.2.1 (Nat.not_le.mpr G.2.1) hS (lg_in hi hL 3 3 (by decide) (by decide)) dL_law_548 ?_
  refine z_calli (pc := 549) C hPM hPC (fun i j hi hj h => G.2.2.2.2.2.2 j i hj hi h.symm) G.2.2.2.2.2.1 hS mi_X11_buy ck_11 (k0M : wk LM 0 11) ml_L_62 (hR.le (by decide) : RoL (4 + 1) R) (Nat.le_trans (by decide) hcs.1) (Nat.le_trans (by decide) hcs.2) [.int (xs (nI i + 1).toNatClampNeg), .int (xs (nI i + 2).toNatClampNeg), .int (xs (nI i + 3).toNatClampNeg)] rfl hl.1 rfl (Nat.le_of_ble_eq_true rfl) dL_law_549 pcG_blind (pcG_law C hPM) (m_X11_buy G.2.2.2.1 k0M hc2) (fun H locs hPM hPC hS => ?_)
  refine lv_icmp_eq (pc := 552) (tgt := 854) C.1 C.2.1 dL_law_552 (by decide) (fun _ => ?_) (fun h => absurd rfl h)
  exact kk _ _ _ _ hInv ⟨hPC, hPM⟩ hS
set_option maxHeartbeats 4000000 in
set_option maxRecDepth 100000 in
theorem law_c11 {Inv : VV → VV → Prop} (C : Cx p s m #[Value.ref b] c cL_law 4 RL D cy) (G : LG s b L xs adC adM) (hST : STL s tL tM) (hR : RoL 40 R) (hcs : 117 ≤ R.cells ∧ 898 ≤ R.slots) (hi : i + 5 ≤ L) (hL : L ≤ 2560) (hw : LW D cy adC adM vC vM H) (hS : va_S (fun q => s.heap.size ≤ q) s.heap H locs) (hl : lv_has ls 4 [(0, .ref b), (1, .ref (adC 0)), (2, .ref (adM 0)), (3, .int (nI i))]) (hstep : ∀ (a0 a1 a2 : Int32), ∃ (r : Int32) (vC' vM' : VV), F_X10_sell 0 a0 a1 a2 vC = some (r, vC') ∧ F_X11_sell 0 a0 a1 a2 vM = some (r, vM') ∧ Inv vC' vM') (kk : ∀ (vC' vM' : VV) (H : Heap) (locs : List Loc), Inv vC' vM' → LW D cy adC adM vC' vM' H → va_S (fun q => s.heap.size ≤ q) s.heap H locs → W p l e R s m #[Value.ref b] below meth c H locs 117 898 Q (F0 m 854 ls [])) : W p l e R s m #[Value.ref b] below meth c H locs 117 898 Q (F0 m 557 ls []) := by
  obtain ⟨hPC, hPM⟩ := hw
  refine lv_aload_n (pc := 557) C.1 C.2.1 dL_law_557 rfl (lv_at hl 1 rfl) ?_
  refine lv_aload_n (pc := 558) C.1 C.2.1 dL_law_558 rfl (lv_at hl 0 rfl) ?_
  refine lv_iload_n (pc := 559) C.1 C.2.1 dL_law_559 rfl (lv_at hl 3 rfl) ?_
  refine lv_iconst (pc := 560) (v := 1) C.1 C.2.1 dL_law_560 (by decide) ?_
  refine lv_iadd (pc := 561) C.1 C.2.1 dL_law_561 ?_
  refine va_sld (pc := 562) C.1 C.2.1 G.1 G.2.1 (Nat.not_le.mpr G.2.1) hS (lg_in hi hL 1 1 (by decide) (by decide)) dL_law_562 ?_
  refine lv_aload_n (pc := 563) C.1 C.2.1 dL_law_563 rfl (lv_at hl 0 rfl) ?_
  refine lv_iload_n (pc := 564) C.1 C.2.1 dL_law_564 rfl (lv_at hl 3 rfl) ?_
  refine lv_iconst (pc := 565) (v := 2) C.1 C.2.1 dL_law_565 (by decide) ?_
  refine lv_iadd (pc := 566) C.1 C.2.1 dL_law_566 ?_
  refine va_sld (pc := 567) C.1 C.2.1 G.1 G.2.1 (Nat.not_le.mpr G.2.1) hS (lg_in hi hL 2 2 (by decide) (by decide)) dL_law_567 ?_
  refine lv_aload_n (pc := 568) C.1 C.2.1 dL_law_568 rfl (lv_at hl 0 rfl) ?_
  refine lv_iload_n (pc := 569) C.1 C.2.1 dL_law_569 rfl (lv_at hl 3 rfl) ?_
  refine lv_iconst (pc := 570) (v := 3) C.1 C.2.1 dL_law_570 (by decide) ?_
  refine lv_iadd (pc := 571) C.1 C.2.1 dL_law_571 ?_
  refine va_sld (pc := 572) C.1 C.2.1 G.1 G.2.1 (Nat.not_le.mpr G.2.1) hS (lg_in hi hL 3 3 (by decide) (by decide)) dL_law_572 ?_
  obtain ⟨r, vC', vM', hc1, hc2, hInv⟩ := hstep (xs (nI i + 1).toNatClampNeg) (xs (nI i + 2).toNatClampNeg) (xs (nI i + 3).toNatClampNeg)
  refine z_calli (pc := 573) C hPC hPM G.2.2.2.2.2.2 G.2.2.2.2.1 hS mi_X10_sell ck_10 (k0C : wk LC 0 10) ml_L_63 (hR.le (by decide) : RoL (4 + 1) R) (Nat.le_trans (by decide) hcs.1) (Nat.le_trans (by decide) hcs.2) [.int (xs (nI i + 1).toNatClampNeg), .int (xs (nI i + 2).toNatClampNeg), .int (xs (nI i + 3).toNatClampNeg)] rfl hl.1 rfl (Nat.le_of_ble_eq_true rfl) dL_law_573 pcG_blind (pcG_law C hPC) (m_X10_sell G.2.2.1 k0C hc1) (fun H locs hPC hPM hS => ?_)
  refine lv_aload_n (pc := 576) C.1 C.2.1 dL_law_576 rfl (lv_at hl 2 rfl) ?_
  refine lv_aload_n (pc := 577) C.1 C.2.1 dL_law_577 rfl (lv_at hl 0 rfl) ?_
  refine lv_iload_n (pc := 578) C.1 C.2.1 dL_law_578 rfl (lv_at hl 3 rfl) ?_
  refine lv_iconst (pc := 579) (v := 1) C.1 C.2.1 dL_law_579 (by decide) ?_
  refine lv_iadd (pc := 580) C.1 C.2.1 dL_law_580 ?_
  refine va_sld (pc := 581) C.1 C.2.1 G.1 G.2.1 (Nat.not_le.mpr G.2.1) hS (lg_in hi hL 1 1 (by decide) (by decide)) dL_law_581 ?_
  refine lv_aload_n (pc := 582) C.1 C.2.1 dL_law_582 rfl (lv_at hl 0 rfl) ?_
  refine lv_iload_n (pc := 583) C.1 C.2.1 dL_law_583 rfl (lv_at hl 3 rfl) ?_
  refine lv_iconst (pc := 584) (v := 2) C.1 C.2.1 dL_law_584 (by decide) ?_
  refine lv_iadd (pc := 585) C.1 C.2.1 dL_law_585 ?_
  refine va_sld (pc := 586) C.1 C.2.1 G.1 G.2.1 (Nat.not_le.mpr G.2.1) hS (lg_in hi hL 2 2 (by decide) (by decide)) dL_law_586 ?_
  refine lv_aload_n (pc := 587) C.1 C.2.1 dL_law_587 rfl (lv_at hl 0 rfl) ?_
  refine lv_iload_n (pc := 588) C.1 C.2.1 dL_law_588 rfl (lv_at hl 3 rfl) ?_
  refine lv_iconst (pc := 589) (v := 3) C.1 C.2.1 dL_law_589 (by decide) ?_
  refine lv_iadd (pc := 590) C.1 C.2.1 dL_law_590 ?_
  refine va_sld (pc := 591) C.1 C.2.1 G.1 G.2.1 (Nat.not_le.mpr G.2.1) hS (lg_in hi hL 3 3 (by decide) (by decide)) dL_law_591 ?_
  refine z_calli (pc := 592) C hPM hPC (fun i j hi hj h => G.2.2.2.2.2.2 j i hj hi h.symm) G.2.2.2.2.2.1 hS mi_X11_sell ck_11 (k0M : wk LM 0 11) ml_L_66 (hR.le (by decide) : RoL (4 + 1) R) (Nat.le_trans (by decide) hcs.1) (Nat.le_trans (by decide) hcs.2) [.int (xs (nI i + 1).toNatClampNeg), .int (xs (nI i + 2).toNatClampNeg), .int (xs (nI i + 3).toNatClampNeg)] rfl hl.1 rfl (Nat.le_of_ble_eq_true rfl) dL_law_592 pcG_blind (pcG_law C hPM) (m_X11_sell G.2.2.2.1 k0M hc2) (fun H locs hPM hPC hS => ?_)
  refine lv_icmp_eq (pc := 595) (tgt := 854) C.1 C.2.1 dL_law_595 (by decide) (fun _ => ?_) (fun h => absurd rfl h)
  exact kk _ _ _ _ hInv ⟨hPC, hPM⟩ hS
set_option maxHeartbeats 4000000 in
set_option maxRecDepth 100000 in
theorem law_c12 {Inv : VV → VV → Prop} (C : Cx p s m #[Value.ref b] c cL_law 4 RL D cy) (G : LG s b L xs adC adM) (hST : STL s tL tM) (hR : RoL 40 R) (hcs : 117 ≤ R.cells ∧ 898 ≤ R.slots) (hi : i + 5 ≤ L) (hL : L ≤ 2560) (hw : LW D cy adC adM vC vM H) (hS : va_S (fun q => s.heap.size ≤ q) s.heap H locs) (hl : lv_has ls 4 [(0, .ref b), (1, .ref (adC 0)), (2, .ref (adM 0)), (3, .int (nI i))]) (hstep : ∀ (a0 a1 : Int32), ∃ (r : Int32) (vC' vM' : VV), F_X10_go 0 a0 a1 vC = some (r, vC') ∧ F_X11_go 0 a0 a1 vM = some (r, vM') ∧ Inv vC' vM') (kk : ∀ (vC' vM' : VV) (H : Heap) (locs : List Loc), Inv vC' vM' → LW D cy adC adM vC' vM' H → va_S (fun q => s.heap.size ≤ q) s.heap H locs → W p l e R s m #[Value.ref b] below meth c H locs 117 898 Q (F0 m 854 ls [])) : W p l e R s m #[Value.ref b] below meth c H locs 117 898 Q (F0 m 600 ls []) := by
  obtain ⟨hPC, hPM⟩ := hw
  refine lv_aload_n (pc := 600) C.1 C.2.1 dL_law_600 rfl (lv_at hl 1 rfl) ?_
  refine lv_aload_n (pc := 601) C.1 C.2.1 dL_law_601 rfl (lv_at hl 0 rfl) ?_
  refine lv_iload_n (pc := 602) C.1 C.2.1 dL_law_602 rfl (lv_at hl 3 rfl) ?_
  refine lv_iconst (pc := 603) (v := 1) C.1 C.2.1 dL_law_603 (by decide) ?_
  refine lv_iadd (pc := 604) C.1 C.2.1 dL_law_604 ?_
  refine va_sld (pc := 605) C.1 C.2.1 G.1 G.2.1 (Nat.not_le.mpr G.2.1) hS (lg_in hi hL 1 1 (by decide) (by decide)) dL_law_605 ?_
  refine lv_aload_n (pc := 606) C.1 C.2.1 dL_law_606 rfl (lv_at hl 0 rfl) ?_
  refine lv_iload_n (pc := 607) C.1 C.2.1 dL_law_607 rfl (lv_at hl 3 rfl) ?_
  refine lv_iconst (pc := 608) (v := 2) C.1 C.2.1 dL_law_608 (by decide) ?_
  refine lv_iadd (pc := 609) C.1 C.2.1 dL_law_609 ?_
  refine va_sld (pc := 610) C.1 C.2.1 G.1 G.2.1 (Nat.not_le.mpr G.2.1) hS (lg_in hi hL 2 2 (by decide) (by decide)) dL_law_610 ?_
  obtain ⟨r, vC', vM', hc1, hc2, hInv⟩ := hstep (xs (nI i + 1).toNatClampNeg) (xs (nI i + 2).toNatClampNeg)
  refine z_calli (pc := 611) C hPC hPM G.2.2.2.2.2.2 G.2.2.2.2.1 hS mi_X10_go ck_10 (k0C : wk LC 0 10) ml_L_67 (hR.le (by decide) : RoL (5 + 1) R) (Nat.le_trans (by decide) hcs.1) (Nat.le_trans (by decide) hcs.2) [.int (xs (nI i + 1).toNatClampNeg), .int (xs (nI i + 2).toNatClampNeg)] rfl hl.1 rfl (Nat.le_of_ble_eq_true rfl) dL_law_611 pcG_blind (pcG_law C hPC) (m_X10_go G.2.2.1 k0C hc1) (fun H locs hPC hPM hS => ?_)
  refine lv_aload_n (pc := 614) C.1 C.2.1 dL_law_614 rfl (lv_at hl 2 rfl) ?_
  refine lv_aload_n (pc := 615) C.1 C.2.1 dL_law_615 rfl (lv_at hl 0 rfl) ?_
  refine lv_iload_n (pc := 616) C.1 C.2.1 dL_law_616 rfl (lv_at hl 3 rfl) ?_
  refine lv_iconst (pc := 617) (v := 1) C.1 C.2.1 dL_law_617 (by decide) ?_
  refine lv_iadd (pc := 618) C.1 C.2.1 dL_law_618 ?_
  refine va_sld (pc := 619) C.1 C.2.1 G.1 G.2.1 (Nat.not_le.mpr G.2.1) hS (lg_in hi hL 1 1 (by decide) (by decide)) dL_law_619 ?_
  refine lv_aload_n (pc := 620) C.1 C.2.1 dL_law_620 rfl (lv_at hl 0 rfl) ?_
  refine lv_iload_n (pc := 621) C.1 C.2.1 dL_law_621 rfl (lv_at hl 3 rfl) ?_
  refine lv_iconst (pc := 622) (v := 2) C.1 C.2.1 dL_law_622 (by decide) ?_
  refine lv_iadd (pc := 623) C.1 C.2.1 dL_law_623 ?_
  refine va_sld (pc := 624) C.1 C.2.1 G.1 G.2.1 (Nat.not_le.mpr G.2.1) hS (lg_in hi hL 2 2 (by decide) (by decide)) dL_law_624 ?_
  refine z_calli (pc := 625) C hPM hPC (fun i j hi hj h => G.2.2.2.2.2.2 j i hj hi h.symm) G.2.2.2.2.2.1 hS mi_X11_go ck_11 (k0M : wk LM 0 11) ml_L_70 (hR.le (by decide) : RoL (3 + 1) R) (Nat.le_trans (by decide) hcs.1) (Nat.le_trans (by decide) hcs.2) [.int (xs (nI i + 1).toNatClampNeg), .int (xs (nI i + 2).toNatClampNeg)] rfl hl.1 rfl (Nat.le_of_ble_eq_true rfl) dL_law_625 pcG_blind (pcG_law C hPM) (m_X11_go G.2.2.2.1 k0M hc2) (fun H locs hPM hPC hS => ?_)
  refine lv_icmp_eq (pc := 628) (tgt := 854) C.1 C.2.1 dL_law_628 (by decide) (fun _ => ?_) (fun h => absurd rfl h)
  exact kk _ _ _ _ hInv ⟨hPC, hPM⟩ hS
set_option maxHeartbeats 4000000 in
set_option maxRecDepth 100000 in
theorem law_c13 {Inv : VV → VV → Prop} (C : Cx p s m #[Value.ref b] c cL_law 4 RL D cy) (G : LG s b L xs adC adM) (hST : STL s tL tM) (hR : RoL 40 R) (hcs : 117 ≤ R.cells ∧ 898 ≤ R.slots) (hi : i + 5 ≤ L) (hL : L ≤ 2560) (hw : LW D cy adC adM vC vM H) (hS : va_S (fun q => s.heap.size ≤ q) s.heap H locs) (hl : lv_has ls 4 [(0, .ref b), (1, .ref (adC 0)), (2, .ref (adM 0)), (3, .int (nI i))]) (hstep : ∀ (a0 a1 : Int32), ∃ (r : Int32) (vC' vM' : VV), F_X10_ofShip 0 a0 a1 vC = some (r, vC') ∧ F_X11_ofShip 0 a0 a1 vM = some (r, vM') ∧ Inv vC' vM') (kk : ∀ (vC' vM' : VV) (H : Heap) (locs : List Loc), Inv vC' vM' → LW D cy adC adM vC' vM' H → va_S (fun q => s.heap.size ≤ q) s.heap H locs → W p l e R s m #[Value.ref b] below meth c H locs 117 898 Q (F0 m 854 ls [])) : W p l e R s m #[Value.ref b] below meth c H locs 117 898 Q (F0 m 633 ls []) := by
  obtain ⟨hPC, hPM⟩ := hw
  refine lv_aload_n (pc := 633) C.1 C.2.1 dL_law_633 rfl (lv_at hl 1 rfl) ?_
  refine lv_aload_n (pc := 634) C.1 C.2.1 dL_law_634 rfl (lv_at hl 0 rfl) ?_
  refine lv_iload_n (pc := 635) C.1 C.2.1 dL_law_635 rfl (lv_at hl 3 rfl) ?_
  refine lv_iconst (pc := 636) (v := 1) C.1 C.2.1 dL_law_636 (by decide) ?_
  refine lv_iadd (pc := 637) C.1 C.2.1 dL_law_637 ?_
  refine va_sld (pc := 638) C.1 C.2.1 G.1 G.2.1 (Nat.not_le.mpr G.2.1) hS (lg_in hi hL 1 1 (by decide) (by decide)) dL_law_638 ?_
  refine lv_aload_n (pc := 639) C.1 C.2.1 dL_law_639 rfl (lv_at hl 0 rfl) ?_
  refine lv_iload_n (pc := 640) C.1 C.2.1 dL_law_640 rfl (lv_at hl 3 rfl) ?_
  refine lv_iconst (pc := 641) (v := 2) C.1 C.2.1 dL_law_641 (by decide) ?_
  refine lv_iadd (pc := 642) C.1 C.2.1 dL_law_642 ?_
  refine va_sld (pc := 643) C.1 C.2.1 G.1 G.2.1 (Nat.not_le.mpr G.2.1) hS (lg_in hi hL 2 2 (by decide) (by decide)) dL_law_643 ?_
  obtain ⟨r, vC', vM', hc1, hc2, hInv⟩ := hstep (xs (nI i + 1).toNatClampNeg) (xs (nI i + 2).toNatClampNeg)
  refine z_calli (pc := 644) C hPC hPM G.2.2.2.2.2.2 G.2.2.2.2.1 hS mi_X10_ofShip ck_10 (k0C : wk LC 0 10) ml_L_71 (hR.le (by decide) : RoL (3 + 1) R) (Nat.le_trans (by decide) hcs.1) (Nat.le_trans (by decide) hcs.2) [.int (xs (nI i + 1).toNatClampNeg), .int (xs (nI i + 2).toNatClampNeg)] rfl hl.1 rfl (Nat.le_of_ble_eq_true rfl) dL_law_644 pcG_blind (pcG_law C hPC) (m_X10_ofShip G.2.2.1 k0C hc1) (fun H locs hPC hPM hS => ?_)
  refine lv_aload_n (pc := 647) C.1 C.2.1 dL_law_647 rfl (lv_at hl 2 rfl) ?_
  refine lv_aload_n (pc := 648) C.1 C.2.1 dL_law_648 rfl (lv_at hl 0 rfl) ?_
  refine lv_iload_n (pc := 649) C.1 C.2.1 dL_law_649 rfl (lv_at hl 3 rfl) ?_
  refine lv_iconst (pc := 650) (v := 1) C.1 C.2.1 dL_law_650 (by decide) ?_
  refine lv_iadd (pc := 651) C.1 C.2.1 dL_law_651 ?_
  refine va_sld (pc := 652) C.1 C.2.1 G.1 G.2.1 (Nat.not_le.mpr G.2.1) hS (lg_in hi hL 1 1 (by decide) (by decide)) dL_law_652 ?_
  refine lv_aload_n (pc := 653) C.1 C.2.1 dL_law_653 rfl (lv_at hl 0 rfl) ?_
  refine lv_iload_n (pc := 654) C.1 C.2.1 dL_law_654 rfl (lv_at hl 3 rfl) ?_
  refine lv_iconst (pc := 655) (v := 2) C.1 C.2.1 dL_law_655 (by decide) ?_
  refine lv_iadd (pc := 656) C.1 C.2.1 dL_law_656 ?_
  refine va_sld (pc := 657) C.1 C.2.1 G.1 G.2.1 (Nat.not_le.mpr G.2.1) hS (lg_in hi hL 2 2 (by decide) (by decide)) dL_law_657 ?_
  refine z_calli (pc := 658) C hPM hPC (fun i j hi hj h => G.2.2.2.2.2.2 j i hj hi h.symm) G.2.2.2.2.2.1 hS mi_X11_ofShip ck_11 (k0M : wk LM 0 11) ml_L_74 (hR.le (by decide) : RoL (3 + 1) R) (Nat.le_trans (by decide) hcs.1) (Nat.le_trans (by decide) hcs.2) [.int (xs (nI i + 1).toNatClampNeg), .int (xs (nI i + 2).toNatClampNeg)] rfl hl.1 rfl (Nat.le_of_ble_eq_true rfl) dL_law_658 pcG_blind (pcG_law C hPM) (m_X11_ofShip G.2.2.2.1 k0M hc2) (fun H locs hPM hPC hS => ?_)
  refine lv_icmp_eq (pc := 661) (tgt := 854) C.1 C.2.1 dL_law_661 (by decide) (fun _ => ?_) (fun h => absurd rfl h)
  exact kk _ _ _ _ hInv ⟨hPC, hPM⟩ hS
set_option maxHeartbeats 4000000 in
set_option maxRecDepth 100000 in
theorem law_c14 {Inv : VV → VV → Prop} (C : Cx p s m #[Value.ref b] c cL_law 4 RL D cy) (G : LG s b L xs adC adM) (hST : STL s tL tM) (hR : RoL 40 R) (hcs : 117 ≤ R.cells ∧ 898 ≤ R.slots) (hi : i + 5 ≤ L) (hL : L ≤ 2560) (hw : LW D cy adC adM vC vM H) (hS : va_S (fun q => s.heap.size ≤ q) s.heap H locs) (hl : lv_has ls 4 [(0, .ref b), (1, .ref (adC 0)), (2, .ref (adM 0)), (3, .int (nI i))]) (hstep : ∀ (a0 : Int32), ∃ (r : Int32) (vC' vM' : VV), F_X10_fuel 0 a0 vC = some (r, vC') ∧ F_X11_fuel 0 a0 vM = some (r, vM') ∧ Inv vC' vM') (kk : ∀ (vC' vM' : VV) (H : Heap) (locs : List Loc), Inv vC' vM' → LW D cy adC adM vC' vM' H → va_S (fun q => s.heap.size ≤ q) s.heap H locs → W p l e R s m #[Value.ref b] below meth c H locs 117 898 Q (F0 m 854 ls [])) : W p l e R s m #[Value.ref b] below meth c H locs 117 898 Q (F0 m 666 ls []) := by
  obtain ⟨hPC, hPM⟩ := hw
  refine lv_aload_n (pc := 666) C.1 C.2.1 dL_law_666 rfl (lv_at hl 1 rfl) ?_
  refine lv_aload_n (pc := 667) C.1 C.2.1 dL_law_667 rfl (lv_at hl 0 rfl) ?_
  refine lv_iload_n (pc := 668) C.1 C.2.1 dL_law_668 rfl (lv_at hl 3 rfl) ?_
  refine lv_iconst (pc := 669) (v := 1) C.1 C.2.1 dL_law_669 (by decide) ?_
  refine lv_iadd (pc := 670) C.1 C.2.1 dL_law_670 ?_
  refine va_sld (pc := 671) C.1 C.2.1 G.1 G.2.1 (Nat.not_le.mpr G.2.1) hS (lg_in hi hL 1 1 (by decide) (by decide)) dL_law_671 ?_
  obtain ⟨r, vC', vM', hc1, hc2, hInv⟩ := hstep (xs (nI i + 1).toNatClampNeg)
  refine z_calli (pc := 672) C hPC hPM G.2.2.2.2.2.2 G.2.2.2.2.1 hS mi_X10_fuel ck_10 (k0C : wk LC 0 10) ml_L_75 (hR.le (by decide) : RoL (2 + 1) R) (Nat.le_trans (by decide) hcs.1) (Nat.le_trans (by decide) hcs.2) [.int (xs (nI i + 1).toNatClampNeg)] rfl hl.1 rfl (Nat.le_of_ble_eq_true rfl) dL_law_672 pcG_blind (pcG_law C hPC) (m_X10_fuel G.2.2.1 k0C hc1) (fun H locs hPC hPM hS => ?_)
  refine lv_aload_n (pc := 675) C.1 C.2.1 dL_law_675 rfl (lv_at hl 2 rfl) ?_
  refine lv_aload_n (pc := 676) C.1 C.2.1 dL_law_676 rfl (lv_at hl 0 rfl) ?_
  refine lv_iload_n (pc := 677) C.1 C.2.1 dL_law_677 rfl (lv_at hl 3 rfl) ?_
  refine lv_iconst (pc := 678) (v := 1) C.1 C.2.1 dL_law_678 (by decide) ?_
  refine lv_iadd (pc := 679) C.1 C.2.1 dL_law_679 ?_
  refine va_sld (pc := 680) C.1 C.2.1 G.1 G.2.1 (Nat.not_le.mpr G.2.1) hS (lg_in hi hL 1 1 (by decide) (by decide)) dL_law_680 ?_
  refine z_calli (pc := 681) C hPM hPC (fun i j hi hj h => G.2.2.2.2.2.2 j i hj hi h.symm) G.2.2.2.2.2.1 hS mi_X11_fuel ck_11 (k0M : wk LM 0 11) ml_L_78 (hR.le (by decide) : RoL (2 + 1) R) (Nat.le_trans (by decide) hcs.1) (Nat.le_trans (by decide) hcs.2) [.int (xs (nI i + 1).toNatClampNeg)] rfl hl.1 rfl (Nat.le_of_ble_eq_true rfl) dL_law_681 pcG_blind (pcG_law C hPM) (m_X11_fuel G.2.2.2.1 k0M hc2) (fun H locs hPM hPC hS => ?_)
  refine lv_icmp_eq (pc := 684) (tgt := 854) C.1 C.2.1 dL_law_684 (by decide) (fun _ => ?_) (fun h => absurd rfl h)
  exact kk _ _ _ _ hInv ⟨hPC, hPM⟩ hS
set_option maxHeartbeats 4000000 in
set_option maxRecDepth 100000 in
theorem law_c15 {Inv : VV → VV → Prop} (C : Cx p s m #[Value.ref b] c cL_law 4 RL D cy) (G : LG s b L xs adC adM) (hST : STL s tL tM) (hR : RoL 40 R) (hcs : 117 ≤ R.cells ∧ 898 ≤ R.slots) (hi : i + 5 ≤ L) (hL : L ≤ 2560) (hw : LW D cy adC adM vC vM H) (hS : va_S (fun q => s.heap.size ≤ q) s.heap H locs) (hl : lv_has ls 4 [(0, .ref b), (1, .ref (adC 0)), (2, .ref (adM 0)), (3, .int (nI i))]) (hstep : ∀ (a0 : Int32), ∃ (r : Int32) (vC' vM' : VV), F_X10_told 0 a0 vC = some (r, vC') ∧ F_X11_told 0 a0 vM = some (r, vM') ∧ Inv vC' vM') (kk : ∀ (vC' vM' : VV) (H : Heap) (locs : List Loc), Inv vC' vM' → LW D cy adC adM vC' vM' H → va_S (fun q => s.heap.size ≤ q) s.heap H locs → W p l e R s m #[Value.ref b] below meth c H locs 117 898 Q (F0 m 854 ls [])) : W p l e R s m #[Value.ref b] below meth c H locs 117 898 Q (F0 m 689 ls []) := by
  obtain ⟨hPC, hPM⟩ := hw
  refine lv_aload_n (pc := 689) C.1 C.2.1 dL_law_689 rfl (lv_at hl 1 rfl) ?_
  refine lv_aload_n (pc := 690) C.1 C.2.1 dL_law_690 rfl (lv_at hl 0 rfl) ?_
  refine lv_iload_n (pc := 691) C.1 C.2.1 dL_law_691 rfl (lv_at hl 3 rfl) ?_
  refine lv_iconst (pc := 692) (v := 1) C.1 C.2.1 dL_law_692 (by decide) ?_
  refine lv_iadd (pc := 693) C.1 C.2.1 dL_law_693 ?_
  refine va_sld (pc := 694) C.1 C.2.1 G.1 G.2.1 (Nat.not_le.mpr G.2.1) hS (lg_in hi hL 1 1 (by decide) (by decide)) dL_law_694 ?_
  obtain ⟨r, vC', vM', hc1, hc2, hInv⟩ := hstep (xs (nI i + 1).toNatClampNeg)
  refine z_calli (pc := 695) C hPC hPM G.2.2.2.2.2.2 G.2.2.2.2.1 hS mi_X10_told ck_10 (k0C : wk LC 0 10) ml_L_79 (hR.le (by decide) : RoL (3 + 1) R) (Nat.le_trans (by decide) hcs.1) (Nat.le_trans (by decide) hcs.2) [.int (xs (nI i + 1).toNatClampNeg)] rfl hl.1 rfl (Nat.le_of_ble_eq_true rfl) dL_law_695 pcG_blind (pcG_law C hPC) (m_X10_told G.2.2.1 k0C hc1) (fun H locs hPC hPM hS => ?_)
  refine lv_aload_n (pc := 698) C.1 C.2.1 dL_law_698 rfl (lv_at hl 2 rfl) ?_
  refine lv_aload_n (pc := 699) C.1 C.2.1 dL_law_699 rfl (lv_at hl 0 rfl) ?_
  refine lv_iload_n (pc := 700) C.1 C.2.1 dL_law_700 rfl (lv_at hl 3 rfl) ?_
  refine lv_iconst (pc := 701) (v := 1) C.1 C.2.1 dL_law_701 (by decide) ?_
  refine lv_iadd (pc := 702) C.1 C.2.1 dL_law_702 ?_
  refine va_sld (pc := 703) C.1 C.2.1 G.1 G.2.1 (Nat.not_le.mpr G.2.1) hS (lg_in hi hL 1 1 (by decide) (by decide)) dL_law_703 ?_
  refine z_calli (pc := 704) C hPM hPC (fun i j hi hj h => G.2.2.2.2.2.2 j i hj hi h.symm) G.2.2.2.2.2.1 hS mi_X11_told ck_11 (k0M : wk LM 0 11) ml_L_82 (hR.le (by decide) : RoL (1 + 1) R) (Nat.le_trans (by decide) hcs.1) (Nat.le_trans (by decide) hcs.2) [.int (xs (nI i + 1).toNatClampNeg)] rfl hl.1 rfl (Nat.le_of_ble_eq_true rfl) dL_law_704 pcG_blind (pcG_law C hPM) (m_X11_told G.2.2.2.1 k0M hc2) (fun H locs hPM hPC hS => ?_)
  refine lv_icmp_eq (pc := 707) (tgt := 854) C.1 C.2.1 dL_law_707 (by decide) (fun _ => ?_) (fun h => absurd rfl h)
  exact kk _ _ _ _ hInv ⟨hPC, hPM⟩ hS
set_option maxHeartbeats 4000000 in
set_option maxRecDepth 100000 in
theorem law_c16 {Inv : VV → VV → Prop} (C : Cx p s m #[Value.ref b] c cL_law 4 RL D cy) (G : LG s b L xs adC adM) (hST : STL s tL tM) (hR : RoL 40 R) (hcs : 117 ≤ R.cells ∧ 898 ≤ R.slots) (hi : i + 5 ≤ L) (hL : L ≤ 2560) (hw : LW D cy adC adM vC vM H) (hS : va_S (fun q => s.heap.size ≤ q) s.heap H locs) (hl : lv_has ls 4 [(0, .ref b), (1, .ref (adC 0)), (2, .ref (adM 0)), (3, .int (nI i))]) (hstep : ∀ (a0 a1 : Int32), ∃ (r : Int32) (vC' vM' : VV), F_X10_ring 0 a0 a1 vC = some (r, vC') ∧ F_X11_ring 0 a0 a1 vM = some (r, vM') ∧ Inv vC' vM') (kk : ∀ (vC' vM' : VV) (H : Heap) (locs : List Loc), Inv vC' vM' → LW D cy adC adM vC' vM' H → va_S (fun q => s.heap.size ≤ q) s.heap H locs → W p l e R s m #[Value.ref b] below meth c H locs 117 898 Q (F0 m 854 ls [])) : W p l e R s m #[Value.ref b] below meth c H locs 117 898 Q (F0 m 712 ls []) := by
  obtain ⟨hPC, hPM⟩ := hw
  refine lv_aload_n (pc := 712) C.1 C.2.1 dL_law_712 rfl (lv_at hl 1 rfl) ?_
  refine lv_aload_n (pc := 713) C.1 C.2.1 dL_law_713 rfl (lv_at hl 0 rfl) ?_
  refine lv_iload_n (pc := 714) C.1 C.2.1 dL_law_714 rfl (lv_at hl 3 rfl) ?_
  refine lv_iconst (pc := 715) (v := 1) C.1 C.2.1 dL_law_715 (by decide) ?_
  refine lv_iadd (pc := 716) C.1 C.2.1 dL_law_716 ?_
  refine va_sld (pc := 717) C.1 C.2.1 G.1 G.2.1 (Nat.not_le.mpr G.2.1) hS (lg_in hi hL 1 1 (by decide) (by decide)) dL_law_717 ?_
  refine lv_aload_n (pc := 718) C.1 C.2.1 dL_law_718 rfl (lv_at hl 0 rfl) ?_
  refine lv_iload_n (pc := 719) C.1 C.2.1 dL_law_719 rfl (lv_at hl 3 rfl) ?_
  refine lv_iconst (pc := 720) (v := 2) C.1 C.2.1 dL_law_720 (by decide) ?_
  refine lv_iadd (pc := 721) C.1 C.2.1 dL_law_721 ?_
  refine va_sld (pc := 722) C.1 C.2.1 G.1 G.2.1 (Nat.not_le.mpr G.2.1) hS (lg_in hi hL 2 2 (by decide) (by decide)) dL_law_722 ?_
  obtain ⟨r, vC', vM', hc1, hc2, hInv⟩ := hstep (xs (nI i + 1).toNatClampNeg) (xs (nI i + 2).toNatClampNeg)
  refine z_calli (pc := 723) C hPC hPM G.2.2.2.2.2.2 G.2.2.2.2.1 hS mi_X10_ring ck_10 (k0C : wk LC 0 10) ml_L_83 (hR.le (by decide) : RoL (12 + 1) R) (Nat.le_trans (by decide) hcs.1) (Nat.le_trans (by decide) hcs.2) [.int (xs (nI i + 1).toNatClampNeg), .int (xs (nI i + 2).toNatClampNeg)] rfl hl.1 rfl (Nat.le_of_ble_eq_true rfl) dL_law_723 pcG_blind (pcG_law C hPC) (m_X10_ring G.2.2.1 k0C hc1) (fun H locs hPC hPM hS => ?_)
  refine lv_aload_n (pc := 726) C.1 C.2.1 dL_law_726 rfl (lv_at hl 2 rfl) ?_
  refine lv_aload_n (pc := 727) C.1 C.2.1 dL_law_727 rfl (lv_at hl 0 rfl) ?_
  refine lv_iload_n (pc := 728) C.1 C.2.1 dL_law_728 rfl (lv_at hl 3 rfl) ?_
  refine lv_iconst (pc := 729) (v := 1) C.1 C.2.1 dL_law_729 (by decide) ?_
  refine lv_iadd (pc := 730) C.1 C.2.1 dL_law_730 ?_
  refine va_sld (pc := 731) C.1 C.2.1 G.1 G.2.1 (Nat.not_le.mpr G.2.1) hS (lg_in hi hL 1 1 (by decide) (by decide)) dL_law_731 ?_
  refine lv_aload_n (pc := 732) C.1 C.2.1 dL_law_732 rfl (lv_at hl 0 rfl) ?_
  refine lv_iload_n (pc := 733) C.1 C.2.1 dL_law_733 rfl (lv_at hl 3 rfl) ?_
  refine lv_iconst (pc := 734) (v := 2) C.1 C.2.1 dL_law_734 (by decide) ?_
  refine lv_iadd (pc := 735) C.1 C.2.1 dL_law_735 ?_
  refine va_sld (pc := 736) C.1 C.2.1 G.1 G.2.1 (Nat.not_le.mpr G.2.1) hS (lg_in hi hL 2 2 (by decide) (by decide)) dL_law_736 ?_
  refine z_calli (pc := 737) C hPM hPC (fun i j hi hj h => G.2.2.2.2.2.2 j i hj hi h.symm) G.2.2.2.2.2.1 hS mi_X11_ring ck_11 (k0M : wk LM 0 11) ml_L_86 (hR.le (by decide) : RoL (5 + 1) R) (Nat.le_trans (by decide) hcs.1) (Nat.le_trans (by decide) hcs.2) [.int (xs (nI i + 1).toNatClampNeg), .int (xs (nI i + 2).toNatClampNeg)] rfl hl.1 rfl (Nat.le_of_ble_eq_true rfl) dL_law_737 pcG_blind (pcG_law C hPM) (m_X11_ring G.2.2.2.1 k0M hc2) (fun H locs hPM hPC hS => ?_)
  refine lv_icmp_eq (pc := 740) (tgt := 854) C.1 C.2.1 dL_law_740 (by decide) (fun _ => ?_) (fun h => absurd rfl h)
  exact kk _ _ _ _ hInv ⟨hPC, hPM⟩ hS
set_option maxHeartbeats 4000000 in
set_option maxRecDepth 100000 in
theorem law_c17 {Inv : VV → VV → Prop} (C : Cx p s m #[Value.ref b] c cL_law 4 RL D cy) (G : LG s b L xs adC adM) (hST : STL s tL tM) (hR : RoL 40 R) (hcs : 117 ≤ R.cells ∧ 898 ≤ R.slots) (hi : i + 5 ≤ L) (hL : L ≤ 2560) (hw : LW D cy adC adM vC vM H) (hS : va_S (fun q => s.heap.size ≤ q) s.heap H locs) (hl : lv_has ls 4 [(0, .ref b), (1, .ref (adC 0)), (2, .ref (adM 0)), (3, .int (nI i))]) (hstep : ∀ (a0 a1 : Int32), ∃ (r : Int32) (vC' vM' : VV), F_X10_plan 0 a0 a1 vC = some (r, vC') ∧ F_X11_plan 0 a0 a1 vM = some (r, vM') ∧ Inv vC' vM') (kk : ∀ (vC' vM' : VV) (H : Heap) (locs : List Loc), Inv vC' vM' → LW D cy adC adM vC' vM' H → va_S (fun q => s.heap.size ≤ q) s.heap H locs → W p l e R s m #[Value.ref b] below meth c H locs 117 898 Q (F0 m 854 ls [])) : W p l e R s m #[Value.ref b] below meth c H locs 117 898 Q (F0 m 745 ls []) := by
  obtain ⟨hPC, hPM⟩ := hw
  refine lv_aload_n (pc := 745) C.1 C.2.1 dL_law_745 rfl (lv_at hl 1 rfl) ?_
  refine lv_aload_n (pc := 746) C.1 C.2.1 dL_law_746 rfl (lv_at hl 0 rfl) ?_
  refine lv_iload_n (pc := 747) C.1 C.2.1 dL_law_747 rfl (lv_at hl 3 rfl) ?_
  refine lv_iconst (pc := 748) (v := 1) C.1 C.2.1 dL_law_748 (by decide) ?_
  refine lv_iadd (pc := 749) C.1 C.2.1 dL_law_749 ?_
  refine va_sld (pc := 750) C.1 C.2.1 G.1 G.2.1 (Nat.not_le.mpr G.2.1) hS (lg_in hi hL 1 1 (by decide) (by decide)) dL_law_750 ?_
  refine lv_aload_n (pc := 751) C.1 C.2.1 dL_law_751 rfl (lv_at hl 0 rfl) ?_
  refine lv_iload_n (pc := 752) C.1 C.2.1 dL_law_752 rfl (lv_at hl 3 rfl) ?_
  refine lv_iconst (pc := 753) (v := 2) C.1 C.2.1 dL_law_753 (by decide) ?_
  refine lv_iadd (pc := 754) C.1 C.2.1 dL_law_754 ?_
  refine va_sld (pc := 755) C.1 C.2.1 G.1 G.2.1 (Nat.not_le.mpr G.2.1) hS (lg_in hi hL 2 2 (by decide) (by decide)) dL_law_755 ?_
  obtain ⟨r, vC', vM', hc1, hc2, hInv⟩ := hstep (xs (nI i + 1).toNatClampNeg) (xs (nI i + 2).toNatClampNeg)
  refine z_calli (pc := 756) C hPC hPM G.2.2.2.2.2.2 G.2.2.2.2.1 hS mi_X10_plan ck_10 (k0C : wk LC 0 10) ml_L_87 (hR.le (by decide) : RoL (17 + 1) R) (Nat.le_trans (by decide) hcs.1) (Nat.le_trans (by decide) hcs.2) [.int (xs (nI i + 1).toNatClampNeg), .int (xs (nI i + 2).toNatClampNeg)] rfl hl.1 rfl (Nat.le_of_ble_eq_true rfl) dL_law_756 pcG_blind (pcG_law C hPC) (m_X10_plan G.2.2.1 k0C hc1) (fun H locs hPC hPM hS => ?_)
  refine lv_aload_n (pc := 759) C.1 C.2.1 dL_law_759 rfl (lv_at hl 2 rfl) ?_
  refine lv_aload_n (pc := 760) C.1 C.2.1 dL_law_760 rfl (lv_at hl 0 rfl) ?_
  refine lv_iload_n (pc := 761) C.1 C.2.1 dL_law_761 rfl (lv_at hl 3 rfl) ?_
  refine lv_iconst (pc := 762) (v := 1) C.1 C.2.1 dL_law_762 (by decide) ?_
  refine lv_iadd (pc := 763) C.1 C.2.1 dL_law_763 ?_
  refine va_sld (pc := 764) C.1 C.2.1 G.1 G.2.1 (Nat.not_le.mpr G.2.1) hS (lg_in hi hL 1 1 (by decide) (by decide)) dL_law_764 ?_
  refine lv_aload_n (pc := 765) C.1 C.2.1 dL_law_765 rfl (lv_at hl 0 rfl) ?_
  refine lv_iload_n (pc := 766) C.1 C.2.1 dL_law_766 rfl (lv_at hl 3 rfl) ?_
  refine lv_iconst (pc := 767) (v := 2) C.1 C.2.1 dL_law_767 (by decide) ?_
  refine lv_iadd (pc := 768) C.1 C.2.1 dL_law_768 ?_
  refine va_sld (pc := 769) C.1 C.2.1 G.1 G.2.1 (Nat.not_le.mpr G.2.1) hS (lg_in hi hL 2 2 (by decide) (by decide)) dL_law_769 ?_
  refine z_calli (pc := 770) C hPM hPC (fun i j hi hj h => G.2.2.2.2.2.2 j i hj hi h.symm) G.2.2.2.2.2.1 hS mi_X11_plan ck_11 (k0M : wk LM 0 11) ml_L_90 (hR.le (by decide) : RoL (4 + 1) R) (Nat.le_trans (by decide) hcs.1) (Nat.le_trans (by decide) hcs.2) [.int (xs (nI i + 1).toNatClampNeg), .int (xs (nI i + 2).toNatClampNeg)] rfl hl.1 rfl (Nat.le_of_ble_eq_true rfl) dL_law_770 pcG_blind (pcG_law C hPM) (m_X11_plan G.2.2.2.1 k0M hc2) (fun H locs hPM hPC hS => ?_)
  refine lv_icmp_eq (pc := 773) (tgt := 854) C.1 C.2.1 dL_law_773 (by decide) (fun _ => ?_) (fun h => absurd rfl h)
  exact kk _ _ _ _ hInv ⟨hPC, hPM⟩ hS
set_option maxHeartbeats 4000000 in
set_option maxRecDepth 100000 in
theorem law_c18 {Inv : VV → VV → Prop} (C : Cx p s m #[Value.ref b] c cL_law 4 RL D cy) (G : LG s b L xs adC adM) (hST : STL s tL tM) (hR : RoL 40 R) (hcs : 117 ≤ R.cells ∧ 898 ≤ R.slots) (hi : i + 5 ≤ L) (hL : L ≤ 2560) (hw : LW D cy adC adM vC vM H) (hS : va_S (fun q => s.heap.size ≤ q) s.heap H locs) (hl : lv_has ls 4 [(0, .ref b), (1, .ref (adC 0)), (2, .ref (adM 0)), (3, .int (nI i))]) (hstep : ∀ (a0 a1 : Int32), ∃ (r : Int32) (vC' vM' : VV), F_X10_planned 0 a0 a1 vC = some (r, vC') ∧ F_X11_planned 0 a0 a1 vM = some (r, vM') ∧ Inv vC' vM') (kk : ∀ (vC' vM' : VV) (H : Heap) (locs : List Loc), Inv vC' vM' → LW D cy adC adM vC' vM' H → va_S (fun q => s.heap.size ≤ q) s.heap H locs → W p l e R s m #[Value.ref b] below meth c H locs 117 898 Q (F0 m 854 ls [])) : W p l e R s m #[Value.ref b] below meth c H locs 117 898 Q (F0 m 778 ls []) := by
  obtain ⟨hPC, hPM⟩ := hw
  refine lv_aload_n (pc := 778) C.1 C.2.1 dL_law_778 rfl (lv_at hl 1 rfl) ?_
  refine lv_aload_n (pc := 779) C.1 C.2.1 dL_law_779 rfl (lv_at hl 0 rfl) ?_
  refine lv_iload_n (pc := 780) C.1 C.2.1 dL_law_780 rfl (lv_at hl 3 rfl) ?_
  refine lv_iconst (pc := 781) (v := 1) C.1 C.2.1 dL_law_781 (by decide) ?_
  refine lv_iadd (pc := 782) C.1 C.2.1 dL_law_782 ?_
  refine va_sld (pc := 783) C.1 C.2.1 G.1 G.2.1 (Nat.not_le.mpr G.2.1) hS (lg_in hi hL 1 1 (by decide) (by decide)) dL_law_783 ?_
  refine lv_aload_n (pc := 784) C.1 C.2.1 dL_law_784 rfl (lv_at hl 0 rfl) ?_
  refine lv_iload_n (pc := 785) C.1 C.2.1 dL_law_785 rfl (lv_at hl 3 rfl) ?_
  refine lv_iconst (pc := 786) (v := 2) C.1 C.2.1 dL_law_786 (by decide) ?_
  refine lv_iadd (pc := 787) C.1 C.2.1 dL_law_787 ?_
  refine va_sld (pc := 788) C.1 C.2.1 G.1 G.2.1 (Nat.not_le.mpr G.2.1) hS (lg_in hi hL 2 2 (by decide) (by decide)) dL_law_788 ?_
  obtain ⟨r, vC', vM', hc1, hc2, hInv⟩ := hstep (xs (nI i + 1).toNatClampNeg) (xs (nI i + 2).toNatClampNeg)
  refine z_calli (pc := 789) C hPC hPM G.2.2.2.2.2.2 G.2.2.2.2.1 hS mi_X10_planned ck_10 (k0C : wk LC 0 10) ml_L_91 (hR.le (by decide) : RoL (2 + 1) R) (Nat.le_trans (by decide) hcs.1) (Nat.le_trans (by decide) hcs.2) [.int (xs (nI i + 1).toNatClampNeg), .int (xs (nI i + 2).toNatClampNeg)] rfl hl.1 rfl (Nat.le_of_ble_eq_true rfl) dL_law_789 pcG_blind (pcG_law C hPC) (m_X10_planned G.2.2.1 k0C hc1) (fun H locs hPC hPM hS => ?_)
  refine lv_aload_n (pc := 792) C.1 C.2.1 dL_law_792 rfl (lv_at hl 2 rfl) ?_
  refine lv_aload_n (pc := 793) C.1 C.2.1 dL_law_793 rfl (lv_at hl 0 rfl) ?_
  refine lv_iload_n (pc := 794) C.1 C.2.1 dL_law_794 rfl (lv_at hl 3 rfl) ?_
  refine lv_iconst (pc := 795) (v := 1) C.1 C.2.1 dL_law_795 (by decide) ?_
  refine lv_iadd (pc := 796) C.1 C.2.1 dL_law_796 ?_
  refine va_sld (pc := 797) C.1 C.2.1 G.1 G.2.1 (Nat.not_le.mpr G.2.1) hS (lg_in hi hL 1 1 (by decide) (by decide)) dL_law_797 ?_
  refine lv_aload_n (pc := 798) C.1 C.2.1 dL_law_798 rfl (lv_at hl 0 rfl) ?_
  refine lv_iload_n (pc := 799) C.1 C.2.1 dL_law_799 rfl (lv_at hl 3 rfl) ?_
  refine lv_iconst (pc := 800) (v := 2) C.1 C.2.1 dL_law_800 (by decide) ?_
  refine lv_iadd (pc := 801) C.1 C.2.1 dL_law_801 ?_
  refine va_sld (pc := 802) C.1 C.2.1 G.1 G.2.1 (Nat.not_le.mpr G.2.1) hS (lg_in hi hL 2 2 (by decide) (by decide)) dL_law_802 ?_
  refine z_calli (pc := 803) C hPM hPC (fun i j hi hj h => G.2.2.2.2.2.2 j i hj hi h.symm) G.2.2.2.2.2.1 hS mi_X11_planned ck_11 (k0M : wk LM 0 11) ml_L_94 (hR.le (by decide) : RoL (2 + 1) R) (Nat.le_trans (by decide) hcs.1) (Nat.le_trans (by decide) hcs.2) [.int (xs (nI i + 1).toNatClampNeg), .int (xs (nI i + 2).toNatClampNeg)] rfl hl.1 rfl (Nat.le_of_ble_eq_true rfl) dL_law_803 pcG_blind (pcG_law C hPM) (m_X11_planned G.2.2.2.1 k0M hc2) (fun H locs hPM hPC hS => ?_)
  refine lv_icmp_eq (pc := 806) (tgt := 854) C.1 C.2.1 dL_law_806 (by decide) (fun _ => ?_) (fun h => absurd rfl h)
  exact kk _ _ _ _ hInv ⟨hPC, hPM⟩ hS
set_option maxHeartbeats 4000000 in
set_option maxRecDepth 100000 in
theorem law_c19 {Inv : VV → VV → Prop} (C : Cx p s m #[Value.ref b] c cL_law 4 RL D cy) (G : LG s b L xs adC adM) (hST : STL s tL tM) (hR : RoL 40 R) (hcs : 117 ≤ R.cells ∧ 898 ≤ R.slots) (hi : i + 5 ≤ L) (hL : L ≤ 2560) (hw : LW D cy adC adM vC vM H) (hS : va_S (fun q => s.heap.size ≤ q) s.heap H locs) (hl : lv_has ls 4 [(0, .ref b), (1, .ref (adC 0)), (2, .ref (adM 0)), (3, .int (nI i))]) (hstep : ∀ (a0 a1 a2 : Int32), ∃ (r : Int32) (vC' vM' : VV), F_X10_starves 0 a0 a1 a2 vC = some (r, vC') ∧ F_X11_starves 0 a0 a1 a2 vM = some (r, vM') ∧ Inv vC' vM') (kk : ∀ (vC' vM' : VV) (H : Heap) (locs : List Loc), Inv vC' vM' → LW D cy adC adM vC' vM' H → va_S (fun q => s.heap.size ≤ q) s.heap H locs → W p l e R s m #[Value.ref b] below meth c H locs 117 898 Q (F0 m 854 ls [])) : W p l e R s m #[Value.ref b] below meth c H locs 117 898 Q (F0 m 811 ls []) := by
  obtain ⟨hPC, hPM⟩ := hw
  refine lv_aload_n (pc := 811) C.1 C.2.1 dL_law_811 rfl (lv_at hl 1 rfl) ?_
  refine lv_aload_n (pc := 812) C.1 C.2.1 dL_law_812 rfl (lv_at hl 0 rfl) ?_
  refine lv_iload_n (pc := 813) C.1 C.2.1 dL_law_813 rfl (lv_at hl 3 rfl) ?_
  refine lv_iconst (pc := 814) (v := 1) C.1 C.2.1 dL_law_814 (by decide) ?_
  refine lv_iadd (pc := 815) C.1 C.2.1 dL_law_815 ?_
  refine va_sld (pc := 816) C.1 C.2.1 G.1 G.2.1 (Nat.not_le.mpr G.2.1) hS (lg_in hi hL 1 1 (by decide) (by decide)) dL_law_816 ?_
  refine lv_aload_n (pc := 817) C.1 C.2.1 dL_law_817 rfl (lv_at hl 0 rfl) ?_
  refine lv_iload_n (pc := 818) C.1 C.2.1 dL_law_818 rfl (lv_at hl 3 rfl) ?_
  refine lv_iconst (pc := 819) (v := 2) C.1 C.2.1 dL_law_819 (by decide) ?_
  refine lv_iadd (pc := 820) C.1 C.2.1 dL_law_820 ?_
  refine va_sld (pc := 821) C.1 C.2.1 G.1 G.2.1 (Nat.not_le.mpr G.2.1) hS (lg_in hi hL 2 2 (by decide) (by decide)) dL_law_821 ?_
  refine lv_aload_n (pc := 822) C.1 C.2.1 dL_law_822 rfl (lv_at hl 0 rfl) ?_
  refine lv_iload_n (pc := 823) C.1 C.2.1 dL_law_823 rfl (lv_at hl 3 rfl) ?_
  refine lv_iconst (pc := 824) (v := 3) C.1 C.2.1 dL_law_824 (by decide) ?_
  refine lv_iadd (pc := 825) C.1 C.2.1 dL_law_825 ?_
  refine va_sld (pc := 826) C.1 C.2.1 G.1 G.2.1 (Nat.not_le.mpr G.2.1) hS (lg_in hi hL 3 3 (by decide) (by decide)) dL_law_826 ?_
  obtain ⟨r, vC', vM', hc1, hc2, hInv⟩ := hstep (xs (nI i + 1).toNatClampNeg) (xs (nI i + 2).toNatClampNeg) (xs (nI i + 3).toNatClampNeg)
  refine z_calli (pc := 827) C hPC hPM G.2.2.2.2.2.2 G.2.2.2.2.1 hS mi_X10_starves ck_10 (k0C : wk LC 0 10) ml_L_95 (hR.le (by decide) : RoL (3 + 1) R) (Nat.le_trans (by decide) hcs.1) (Nat.le_trans (by decide) hcs.2) [.int (xs (nI i + 1).toNatClampNeg), .int (xs (nI i + 2).toNatClampNeg), .int (xs (nI i + 3).toNatClampNeg)] rfl hl.1 rfl (Nat.le_of_ble_eq_true rfl) dL_law_827 pcG_blind (pcG_law C hPC) (m_X10_starves G.2.2.1 k0C hc1) (fun H locs hPC hPM hS => ?_)
  refine lv_aload_n (pc := 830) C.1 C.2.1 dL_law_830 rfl (lv_at hl 2 rfl) ?_
  refine lv_aload_n (pc := 831) C.1 C.2.1 dL_law_831 rfl (lv_at hl 0 rfl) ?_
  refine lv_iload_n (pc := 832) C.1 C.2.1 dL_law_832 rfl (lv_at hl 3 rfl) ?_
  refine lv_iconst (pc := 833) (v := 1) C.1 C.2.1 dL_law_833 (by decide) ?_
  refine lv_iadd (pc := 834) C.1 C.2.1 dL_law_834 ?_
  refine va_sld (pc := 835) C.1 C.2.1 G.1 G.2.1 (Nat.not_le.mpr G.2.1) hS (lg_in hi hL 1 1 (by decide) (by decide)) dL_law_835 ?_
  refine lv_aload_n (pc := 836) C.1 C.2.1 dL_law_836 rfl (lv_at hl 0 rfl) ?_
  refine lv_iload_n (pc := 837) C.1 C.2.1 dL_law_837 rfl (lv_at hl 3 rfl) ?_
  refine lv_iconst (pc := 838) (v := 2) C.1 C.2.1 dL_law_838 (by decide) ?_
  refine lv_iadd (pc := 839) C.1 C.2.1 dL_law_839 ?_
  refine va_sld (pc := 840) C.1 C.2.1 G.1 G.2.1 (Nat.not_le.mpr G.2.1) hS (lg_in hi hL 2 2 (by decide) (by decide)) dL_law_840 ?_
  refine lv_aload_n (pc := 841) C.1 C.2.1 dL_law_841 rfl (lv_at hl 0 rfl) ?_
  refine lv_iload_n (pc := 842) C.1 C.2.1 dL_law_842 rfl (lv_at hl 3 rfl) ?_
  refine lv_iconst (pc := 843) (v := 3) C.1 C.2.1 dL_law_843 (by decide) ?_
  refine lv_iadd (pc := 844) C.1 C.2.1 dL_law_844 ?_
  refine va_sld (pc := 845) C.1 C.2.1 G.1 G.2.1 (Nat.not_le.mpr G.2.1) hS (lg_in hi hL 3 3 (by decide) (by decide)) dL_law_845 ?_
  refine z_calli (pc := 846) C hPM hPC (fun i j hi hj h => G.2.2.2.2.2.2 j i hj hi h.symm) G.2.2.2.2.2.1 hS mi_X11_starves ck_11 (k0M : wk LM 0 11) ml_L_98 (hR.le (by decide) : RoL (3 + 1) R) (Nat.le_trans (by decide) hcs.1) (Nat.le_trans (by decide) hcs.2) [.int (xs (nI i + 1).toNatClampNeg), .int (xs (nI i + 2).toNatClampNeg), .int (xs (nI i + 3).toNatClampNeg)] rfl hl.1 rfl (Nat.le_of_ble_eq_true rfl) dL_law_846 pcG_blind (pcG_law C hPM) (m_X11_starves G.2.2.2.1 k0M hc2) (fun H locs hPM hPC hS => ?_)
  refine lv_icmp_eq (pc := 849) (tgt := 854) C.1 C.2.1 dL_law_849 (by decide) (fun _ => ?_) (fun h => absurd rfl h)
  exact kk _ _ _ _ hInv ⟨hPC, hPM⟩ hS
end
