-- THE LAW: its cases
set_option maxRecDepth 100000 in
set_option maxHeartbeats 4000000 in
theorem lc_0 {p : Program} {e : Env} {s : State} {m : MethodId} {below : List Frame} {meth : Method} {c : Code} {Q : State → Prop} (l : Launch) {b L : Nat} {xs : Nat → Int32} {G : nc_G} {K : nc_K} {mi : nc_Mem} {H : Heap} {locs : List Loc} {ls : Array Slot} {X M n cells slots : Nat} {x3 : Int32} (cx : nc_C p s m #[Value.ref b] c cL_law 4 RL G) (hX : va_X b L xs s s.heap) (hbl : b < s.heap.size) (hG : G.2.2.1 = s.heap.size ∧ G.2.2.2.1 = s.heap) (hJ : nc_J G K X M) (inv : nc_INV n X M (K.2.2 M 12) mi) (hn : n ≤ 1000) (hw : nc_W G K mi H locs) (hl : lv_has ls 4 [(0, .ref b), (1, .ref X), (2, .ref M), (3, .int x3)]) (in1 : vp_in (x3 + 1) L) (in2 : vp_in (x3 + 2) L) (in3 : vp_in (x3 + 3) L) (hcs : cells + 54 ≤ room_1.cells ∧ slots + 467 ≤ room_1.slots) (kk : nc_Kk p l e s m b below meth c Q G X M n x3 cells slots) : W p l e room_1 s m #[Value.ref b] below meth c H locs cells slots Q (F0 m 172 ls []) := by
  have hx := cx.1
  have hb := cx.2.1
  have hbA : ¬ (fun q : Nat => s.heap.size ≤ q) b := Nat.not_le.mpr hbl
  have hB : G.2.2.1 ≤ K.1 := hw.2.2.1
  obtain ⟨r, m1, m2, e1, e2, inv'⟩ := nc_INV_sim hJ.2.2.1 (nc_J_z hJ) inv (fun A wf => sim_letter wf (xs (x3 + 1).toNatClampNeg))
  refine lv_aload_n hx hb dL_law_172 rfl (lv_at hl 1 rfl) ?_
  refine lv_aload_n hx hb dL_law_173 rfl (lv_at hl 0 rfl) ?_
  refine lv_iload_n hx hb dL_law_174 rfl (lv_at hl 3 rfl) ?_
  refine lv_iconst (v := 1) hx hb dL_law_175 (by decide) ?_
  refine lv_iadd hx hb dL_law_176 ?_
  refine va_sld hx hb hX hbl hbA (nc_S_of hG hw) in1 dL_law_177 ?_
  refine nc_dallVi ⟨Nat.le_trans (Nat.le_add_right _ _) hcs.1, Nat.le_trans (Nat.le_add_right _ _) hcs.2⟩ cx hw lk_L_13 (c_X7_letter l hJ.1 mi (xs (x3 + 1).toNatClampNeg) (m1, r) e1) (ci := 7) rfl (lNC_is hJ.1) rfl hl.1 rfl (Nat.le_of_ble_eq_true rfl) ⟨rfl, rfl, Nat.le_of_ble_eq_true rfl, Nat.le_of_ble_eq_true rfl⟩ dL_law_178 (fun H locs hw => ?_)
  refine lv_aload_n hx hb dL_law_181 rfl (lv_at hl 2 rfl) ?_
  refine lv_aload_n hx hb dL_law_182 rfl (lv_at hl 0 rfl) ?_
  refine lv_iload_n hx hb dL_law_183 rfl (lv_at hl 3 rfl) ?_
  refine lv_iconst (v := 1) hx hb dL_law_184 (by decide) ?_
  refine lv_iadd hx hb dL_law_185 ?_
  refine va_sld hx hb hX hbl hbA (nc_S_of hG hw) in1 dL_law_186 ?_
  refine nc_dallVi ⟨Nat.le_trans (Nat.le_add_right _ _) hcs.1, Nat.le_trans (Nat.le_add_right _ _) hcs.2⟩ cx hw lk_L_17 (c_X8_letter l hJ.2.1 m1 (xs (x3 + 1).toNatClampNeg) (m2, r) e2) (ci := 8) rfl (lModel_is hJ.2.1) rfl hl.1 rfl (Nat.le_of_ble_eq_true rfl) ⟨rfl, rfl, Nat.le_of_ble_eq_true rfl, Nat.le_of_ble_eq_true rfl⟩ dL_law_187 (fun H locs hw => ?_)
  refine lv_icmp_eq (tgt := 955) hx hb dL_law_190 (by decide) (fun _ => ?_) (fun hne => absurd rfl hne)
  exact kk K _ _ _ _ _ _ hJ inv' hw (Nat.le_add_right _ _) (Nat.le_add_right _ _) hl
set_option maxRecDepth 100000 in
set_option maxHeartbeats 4000000 in
theorem lc_1 {p : Program} {e : Env} {s : State} {m : MethodId} {below : List Frame} {meth : Method} {c : Code} {Q : State → Prop} (l : Launch) {b L : Nat} {xs : Nat → Int32} {G : nc_G} {K : nc_K} {mi : nc_Mem} {H : Heap} {locs : List Loc} {ls : Array Slot} {X M n cells slots : Nat} {x3 : Int32} (cx : nc_C p s m #[Value.ref b] c cL_law 4 RL G) (hX : va_X b L xs s s.heap) (hbl : b < s.heap.size) (hG : G.2.2.1 = s.heap.size ∧ G.2.2.2.1 = s.heap) (hJ : nc_J G K X M) (inv : nc_INV n X M (K.2.2 M 12) mi) (hn : n ≤ 1000) (hw : nc_W G K mi H locs) (hl : lv_has ls 4 [(0, .ref b), (1, .ref X), (2, .ref M), (3, .int x3)]) (in1 : vp_in (x3 + 1) L) (in2 : vp_in (x3 + 2) L) (in3 : vp_in (x3 + 3) L) (hcs : cells + 54 ≤ room_1.cells ∧ slots + 467 ≤ room_1.slots) (kk : nc_Kk p l e s m b below meth c Q G X M n x3 cells slots) : W p l e room_1 s m #[Value.ref b] below meth c H locs cells slots Q (F0 m 195 ls []) := by
  have hx := cx.1
  have hb := cx.2.1
  have hbA : ¬ (fun q : Nat => s.heap.size ≤ q) b := Nat.not_le.mpr hbl
  have hB : G.2.2.1 ≤ K.1 := hw.2.2.1
  obtain ⟨r, m1, m2, e1, e2, inv'⟩ := nc_INV_town (y := K.2.2 M 17) (nz := K.1) hJ.2.2.1 (nc_J_z hJ) rfl (nc_J_tr hJ (by omega)) (nc_J_ap hJ (by omega)) inv
  refine lv_aload_n hx hb dL_law_195 rfl (lv_at hl 1 rfl) ?_
  refine nc_dallVi ⟨Nat.le_trans (Nat.le_add_right _ _) hcs.1, Nat.le_trans (Nat.le_add_right _ _) hcs.2⟩ cx hw lk_L_18 (c_X7_town l hJ.1 mi  (m1, r) e1) (ci := 7) rfl (lNC_is hJ.1) rfl hl.1 rfl (Nat.le_of_ble_eq_true rfl) ⟨rfl, rfl, Nat.le_of_ble_eq_true rfl, Nat.le_of_ble_eq_true rfl⟩ dL_law_196 (fun H locs hw => ?_)
  refine lv_aload_n hx hb dL_law_199 rfl (lv_at hl 2 rfl) ?_
  refine nc_dallX cx hw lk_L_22 (c_X8_town l hJ.2.1 rfl (nc_J_L hJ (by omega)) rfl m1  (m2, r) e2) (ci := 8) rfl (lModel_is hJ.2.1) rfl hl.1 rfl (Nat.le_of_ble_eq_true rfl) ⟨rfl, rfl, Nat.le_of_ble_eq_true rfl, Nat.le_of_ble_eq_true rfl⟩ hcs dL_law_200 (fun K' H locs hPK hw => ?_)
  refine lv_icmp_eq (tgt := 955) hx hb dL_law_203 (by decide) (fun _ => ?_) (fun hne => absurd rfl hne)
  obtain ⟨hJ', hz'⟩ := nc_J_PK hJ hB (by omega) hPK
  exact kk K' m2 _ _ _ _ _ hJ' (by rw [hz']; exact inv') hw (Nat.le_refl _) (Nat.le_refl _) hl
set_option maxRecDepth 100000 in
set_option maxHeartbeats 4000000 in
theorem lc_2 {p : Program} {e : Env} {s : State} {m : MethodId} {below : List Frame} {meth : Method} {c : Code} {Q : State → Prop} (l : Launch) {b L : Nat} {xs : Nat → Int32} {G : nc_G} {K : nc_K} {mi : nc_Mem} {H : Heap} {locs : List Loc} {ls : Array Slot} {X M n cells slots : Nat} {x3 : Int32} (cx : nc_C p s m #[Value.ref b] c cL_law 4 RL G) (hX : va_X b L xs s s.heap) (hbl : b < s.heap.size) (hG : G.2.2.1 = s.heap.size ∧ G.2.2.2.1 = s.heap) (hJ : nc_J G K X M) (inv : nc_INV n X M (K.2.2 M 12) mi) (hn : n ≤ 1000) (hw : nc_W G K mi H locs) (hl : lv_has ls 4 [(0, .ref b), (1, .ref X), (2, .ref M), (3, .int x3)]) (in1 : vp_in (x3 + 1) L) (in2 : vp_in (x3 + 2) L) (in3 : vp_in (x3 + 3) L) (hcs : cells + 54 ≤ room_1.cells ∧ slots + 467 ≤ room_1.slots) (kk : nc_Kk p l e s m b below meth c Q G X M n x3 cells slots) : W p l e room_1 s m #[Value.ref b] below meth c H locs cells slots Q (F0 m 208 ls []) := by
  have hx := cx.1
  have hb := cx.2.1
  have hbA : ¬ (fun q : Nat => s.heap.size ≤ q) b := Nat.not_le.mpr hbl
  have hB : G.2.2.1 ≤ K.1 := hw.2.2.1
  obtain ⟨r, m1, m2, e1, e2, inv'⟩ := nc_INV_sim hJ.2.2.1 (nc_J_z hJ) inv (fun A wf => sim_minutes wf (xs (x3 + 1).toNatClampNeg) (xs (x3 + 2).toNatClampNeg))
  refine lv_aload_n hx hb dL_law_208 rfl (lv_at hl 1 rfl) ?_
  refine lv_aload_n hx hb dL_law_209 rfl (lv_at hl 0 rfl) ?_
  refine lv_iload_n hx hb dL_law_210 rfl (lv_at hl 3 rfl) ?_
  refine lv_iconst (v := 1) hx hb dL_law_211 (by decide) ?_
  refine lv_iadd hx hb dL_law_212 ?_
  refine va_sld hx hb hX hbl hbA (nc_S_of hG hw) in1 dL_law_213 ?_
  refine lv_aload_n hx hb dL_law_214 rfl (lv_at hl 0 rfl) ?_
  refine lv_iload_n hx hb dL_law_215 rfl (lv_at hl 3 rfl) ?_
  refine lv_iconst (v := 2) hx hb dL_law_216 (by decide) ?_
  refine lv_iadd hx hb dL_law_217 ?_
  refine va_sld hx hb hX hbl hbA (nc_S_of hG hw) in2 dL_law_218 ?_
  refine nc_dallVi ⟨Nat.le_trans (Nat.le_add_right _ _) hcs.1, Nat.le_trans (Nat.le_add_right _ _) hcs.2⟩ cx hw lk_L_23 (c_X7_minutes l hJ.1 mi (xs (x3 + 1).toNatClampNeg) (xs (x3 + 2).toNatClampNeg) (m1, r) e1) (ci := 7) rfl (lNC_is hJ.1) rfl hl.1 rfl (Nat.le_of_ble_eq_true rfl) ⟨rfl, rfl, Nat.le_of_ble_eq_true rfl, Nat.le_of_ble_eq_true rfl⟩ dL_law_219 (fun H locs hw => ?_)
  refine lv_aload_n hx hb dL_law_222 rfl (lv_at hl 2 rfl) ?_
  refine lv_aload_n hx hb dL_law_223 rfl (lv_at hl 0 rfl) ?_
  refine lv_iload_n hx hb dL_law_224 rfl (lv_at hl 3 rfl) ?_
  refine lv_iconst (v := 1) hx hb dL_law_225 (by decide) ?_
  refine lv_iadd hx hb dL_law_226 ?_
  refine va_sld hx hb hX hbl hbA (nc_S_of hG hw) in1 dL_law_227 ?_
  refine lv_aload_n hx hb dL_law_228 rfl (lv_at hl 0 rfl) ?_
  refine lv_iload_n hx hb dL_law_229 rfl (lv_at hl 3 rfl) ?_
  refine lv_iconst (v := 2) hx hb dL_law_230 (by decide) ?_
  refine lv_iadd hx hb dL_law_231 ?_
  refine va_sld hx hb hX hbl hbA (nc_S_of hG hw) in2 dL_law_232 ?_
  refine nc_dallVi ⟨Nat.le_trans (Nat.le_add_right _ _) hcs.1, Nat.le_trans (Nat.le_add_right _ _) hcs.2⟩ cx hw lk_L_27 (c_X8_minutes l hJ.2.1 m1 (xs (x3 + 1).toNatClampNeg) (xs (x3 + 2).toNatClampNeg) (m2, r) e2) (ci := 8) rfl (lModel_is hJ.2.1) rfl hl.1 rfl (Nat.le_of_ble_eq_true rfl) ⟨rfl, rfl, Nat.le_of_ble_eq_true rfl, Nat.le_of_ble_eq_true rfl⟩ dL_law_233 (fun H locs hw => ?_)
  refine lv_icmp_eq (tgt := 955) hx hb dL_law_236 (by decide) (fun _ => ?_) (fun hne => absurd rfl hne)
  exact kk K _ _ _ _ _ _ hJ inv' hw (Nat.le_add_right _ _) (Nat.le_add_right _ _) hl
set_option maxRecDepth 100000 in
set_option maxHeartbeats 4000000 in
theorem lc_3 {p : Program} {e : Env} {s : State} {m : MethodId} {below : List Frame} {meth : Method} {c : Code} {Q : State → Prop} (l : Launch) {b L : Nat} {xs : Nat → Int32} {G : nc_G} {K : nc_K} {mi : nc_Mem} {H : Heap} {locs : List Loc} {ls : Array Slot} {X M n cells slots : Nat} {x3 : Int32} (cx : nc_C p s m #[Value.ref b] c cL_law 4 RL G) (hX : va_X b L xs s s.heap) (hbl : b < s.heap.size) (hG : G.2.2.1 = s.heap.size ∧ G.2.2.2.1 = s.heap) (hJ : nc_J G K X M) (inv : nc_INV n X M (K.2.2 M 12) mi) (hn : n ≤ 1000) (hw : nc_W G K mi H locs) (hl : lv_has ls 4 [(0, .ref b), (1, .ref X), (2, .ref M), (3, .int x3)]) (in1 : vp_in (x3 + 1) L) (in2 : vp_in (x3 + 2) L) (in3 : vp_in (x3 + 3) L) (hcs : cells + 54 ≤ room_1.cells ∧ slots + 467 ≤ room_1.slots) (kk : nc_Kk p l e s m b below meth c Q G X M n x3 cells slots) : W p l e room_1 s m #[Value.ref b] below meth c H locs cells slots Q (F0 m 241 ls []) := by
  have hx := cx.1
  have hb := cx.2.1
  have hbA : ¬ (fun q : Nat => s.heap.size ≤ q) b := Nat.not_le.mpr hbl
  have hB : G.2.2.1 ≤ K.1 := hw.2.2.1
  obtain ⟨r, m1, m2, e1, e2, inv'⟩ := nc_INV_sim hJ.2.2.1 (nc_J_z hJ) inv (fun A wf => sim_person wf (xs (x3 + 1).toNatClampNeg) (xs (x3 + 2).toNatClampNeg))
  refine lv_aload_n hx hb dL_law_241 rfl (lv_at hl 1 rfl) ?_
  refine lv_aload_n hx hb dL_law_242 rfl (lv_at hl 0 rfl) ?_
  refine lv_iload_n hx hb dL_law_243 rfl (lv_at hl 3 rfl) ?_
  refine lv_iconst (v := 1) hx hb dL_law_244 (by decide) ?_
  refine lv_iadd hx hb dL_law_245 ?_
  refine va_sld hx hb hX hbl hbA (nc_S_of hG hw) in1 dL_law_246 ?_
  refine lv_aload_n hx hb dL_law_247 rfl (lv_at hl 0 rfl) ?_
  refine lv_iload_n hx hb dL_law_248 rfl (lv_at hl 3 rfl) ?_
  refine lv_iconst (v := 2) hx hb dL_law_249 (by decide) ?_
  refine lv_iadd hx hb dL_law_250 ?_
  refine va_sld hx hb hX hbl hbA (nc_S_of hG hw) in2 dL_law_251 ?_
  refine nc_dallVi ⟨Nat.le_trans (Nat.le_add_right _ _) hcs.1, Nat.le_trans (Nat.le_add_right _ _) hcs.2⟩ cx hw lk_L_28 (c_X7_person l hJ.1 mi (xs (x3 + 1).toNatClampNeg) (xs (x3 + 2).toNatClampNeg) (m1, r) e1) (ci := 7) rfl (lNC_is hJ.1) rfl hl.1 rfl (Nat.le_of_ble_eq_true rfl) ⟨rfl, rfl, Nat.le_of_ble_eq_true rfl, Nat.le_of_ble_eq_true rfl⟩ dL_law_252 (fun H locs hw => ?_)
  refine lv_aload_n hx hb dL_law_255 rfl (lv_at hl 2 rfl) ?_
  refine lv_aload_n hx hb dL_law_256 rfl (lv_at hl 0 rfl) ?_
  refine lv_iload_n hx hb dL_law_257 rfl (lv_at hl 3 rfl) ?_
  refine lv_iconst (v := 1) hx hb dL_law_258 (by decide) ?_
  refine lv_iadd hx hb dL_law_259 ?_
  refine va_sld hx hb hX hbl hbA (nc_S_of hG hw) in1 dL_law_260 ?_
  refine lv_aload_n hx hb dL_law_261 rfl (lv_at hl 0 rfl) ?_
  refine lv_iload_n hx hb dL_law_262 rfl (lv_at hl 3 rfl) ?_
  refine lv_iconst (v := 2) hx hb dL_law_263 (by decide) ?_
  refine lv_iadd hx hb dL_law_264 ?_
  refine va_sld hx hb hX hbl hbA (nc_S_of hG hw) in2 dL_law_265 ?_
  refine nc_dallVi ⟨Nat.le_trans (Nat.le_add_right _ _) hcs.1, Nat.le_trans (Nat.le_add_right _ _) hcs.2⟩ cx hw lk_L_31 (c_X8_person l hJ.2.1 m1 (xs (x3 + 1).toNatClampNeg) (xs (x3 + 2).toNatClampNeg) (m2, r) e2) (ci := 8) rfl (lModel_is hJ.2.1) rfl hl.1 rfl (Nat.le_of_ble_eq_true rfl) ⟨rfl, rfl, Nat.le_of_ble_eq_true rfl, Nat.le_of_ble_eq_true rfl⟩ dL_law_266 (fun H locs hw => ?_)
  refine lv_icmp_eq (tgt := 955) hx hb dL_law_269 (by decide) (fun _ => ?_) (fun hne => absurd rfl hne)
  exact kk K _ _ _ _ _ _ hJ inv' hw (Nat.le_add_right _ _) (Nat.le_add_right _ _) hl
set_option maxRecDepth 100000 in
set_option maxHeartbeats 4000000 in
theorem lc_4 {p : Program} {e : Env} {s : State} {m : MethodId} {below : List Frame} {meth : Method} {c : Code} {Q : State → Prop} (l : Launch) {b L : Nat} {xs : Nat → Int32} {G : nc_G} {K : nc_K} {mi : nc_Mem} {H : Heap} {locs : List Loc} {ls : Array Slot} {X M n cells slots : Nat} {x3 : Int32} (cx : nc_C p s m #[Value.ref b] c cL_law 4 RL G) (hX : va_X b L xs s s.heap) (hbl : b < s.heap.size) (hG : G.2.2.1 = s.heap.size ∧ G.2.2.2.1 = s.heap) (hJ : nc_J G K X M) (inv : nc_INV n X M (K.2.2 M 12) mi) (hn : n ≤ 1000) (hw : nc_W G K mi H locs) (hl : lv_has ls 4 [(0, .ref b), (1, .ref X), (2, .ref M), (3, .int x3)]) (in1 : vp_in (x3 + 1) L) (in2 : vp_in (x3 + 2) L) (in3 : vp_in (x3 + 3) L) (hcs : cells + 54 ≤ room_1.cells ∧ slots + 467 ≤ room_1.slots) (kk : nc_Kk p l e s m b below meth c Q G X M n x3 cells slots) : W p l e room_1 s m #[Value.ref b] below meth c H locs cells slots Q (F0 m 274 ls []) := by
  have hx := cx.1
  have hb := cx.2.1
  have hbA : ¬ (fun q : Nat => s.heap.size ≤ q) b := Nat.not_le.mpr hbl
  have hB : G.2.2.1 ≤ K.1 := hw.2.2.1
  obtain ⟨r, m1, m2, e1, e2, inv'⟩ := nc_INV_sim hJ.2.2.1 (nc_J_z hJ) inv (fun A wf => sim_thing wf (xs (x3 + 1).toNatClampNeg) (xs (x3 + 2).toNatClampNeg))
  refine lv_aload_n hx hb dL_law_274 rfl (lv_at hl 1 rfl) ?_
  refine lv_aload_n hx hb dL_law_275 rfl (lv_at hl 0 rfl) ?_
  refine lv_iload_n hx hb dL_law_276 rfl (lv_at hl 3 rfl) ?_
  refine lv_iconst (v := 1) hx hb dL_law_277 (by decide) ?_
  refine lv_iadd hx hb dL_law_278 ?_
  refine va_sld hx hb hX hbl hbA (nc_S_of hG hw) in1 dL_law_279 ?_
  refine lv_aload_n hx hb dL_law_280 rfl (lv_at hl 0 rfl) ?_
  refine lv_iload_n hx hb dL_law_281 rfl (lv_at hl 3 rfl) ?_
  refine lv_iconst (v := 2) hx hb dL_law_282 (by decide) ?_
  refine lv_iadd hx hb dL_law_283 ?_
  refine va_sld hx hb hX hbl hbA (nc_S_of hG hw) in2 dL_law_284 ?_
  refine nc_dallVi ⟨Nat.le_trans (Nat.le_add_right _ _) hcs.1, Nat.le_trans (Nat.le_add_right _ _) hcs.2⟩ cx hw lk_L_32 (c_X7_thing l hJ.1 mi (xs (x3 + 1).toNatClampNeg) (xs (x3 + 2).toNatClampNeg) (m1, r) e1) (ci := 7) rfl (lNC_is hJ.1) rfl hl.1 rfl (Nat.le_of_ble_eq_true rfl) ⟨rfl, rfl, Nat.le_of_ble_eq_true rfl, Nat.le_of_ble_eq_true rfl⟩ dL_law_285 (fun H locs hw => ?_)
  refine lv_aload_n hx hb dL_law_288 rfl (lv_at hl 2 rfl) ?_
  refine lv_aload_n hx hb dL_law_289 rfl (lv_at hl 0 rfl) ?_
  refine lv_iload_n hx hb dL_law_290 rfl (lv_at hl 3 rfl) ?_
  refine lv_iconst (v := 1) hx hb dL_law_291 (by decide) ?_
  refine lv_iadd hx hb dL_law_292 ?_
  refine va_sld hx hb hX hbl hbA (nc_S_of hG hw) in1 dL_law_293 ?_
  refine lv_aload_n hx hb dL_law_294 rfl (lv_at hl 0 rfl) ?_
  refine lv_iload_n hx hb dL_law_295 rfl (lv_at hl 3 rfl) ?_
  refine lv_iconst (v := 2) hx hb dL_law_296 (by decide) ?_
  refine lv_iadd hx hb dL_law_297 ?_
  refine va_sld hx hb hX hbl hbA (nc_S_of hG hw) in2 dL_law_298 ?_
  refine nc_dallVi ⟨Nat.le_trans (Nat.le_add_right _ _) hcs.1, Nat.le_trans (Nat.le_add_right _ _) hcs.2⟩ cx hw lk_L_35 (c_X8_thing l hJ.2.1 m1 (xs (x3 + 1).toNatClampNeg) (xs (x3 + 2).toNatClampNeg) (m2, r) e2) (ci := 8) rfl (lModel_is hJ.2.1) rfl hl.1 rfl (Nat.le_of_ble_eq_true rfl) ⟨rfl, rfl, Nat.le_of_ble_eq_true rfl, Nat.le_of_ble_eq_true rfl⟩ dL_law_299 (fun H locs hw => ?_)
  refine lv_icmp_eq (tgt := 955) hx hb dL_law_302 (by decide) (fun _ => ?_) (fun hne => absurd rfl hne)
  exact kk K _ _ _ _ _ _ hJ inv' hw (Nat.le_add_right _ _) (Nat.le_add_right _ _) hl
set_option maxRecDepth 100000 in
set_option maxHeartbeats 4000000 in
theorem lc_5 {p : Program} {e : Env} {s : State} {m : MethodId} {below : List Frame} {meth : Method} {c : Code} {Q : State → Prop} (l : Launch) {b L : Nat} {xs : Nat → Int32} {G : nc_G} {K : nc_K} {mi : nc_Mem} {H : Heap} {locs : List Loc} {ls : Array Slot} {X M n cells slots : Nat} {x3 : Int32} (cx : nc_C p s m #[Value.ref b] c cL_law 4 RL G) (hX : va_X b L xs s s.heap) (hbl : b < s.heap.size) (hG : G.2.2.1 = s.heap.size ∧ G.2.2.2.1 = s.heap) (hJ : nc_J G K X M) (inv : nc_INV n X M (K.2.2 M 12) mi) (hn : n ≤ 1000) (hw : nc_W G K mi H locs) (hl : lv_has ls 4 [(0, .ref b), (1, .ref X), (2, .ref M), (3, .int x3)]) (in1 : vp_in (x3 + 1) L) (in2 : vp_in (x3 + 2) L) (in3 : vp_in (x3 + 3) L) (hcs : cells + 54 ≤ room_1.cells ∧ slots + 467 ≤ room_1.slots) (kk : nc_Kk p l e s m b below meth c Q G X M n x3 cells slots) : W p l e room_1 s m #[Value.ref b] below meth c H locs cells slots Q (F0 m 307 ls []) := by
  have hx := cx.1
  have hb := cx.2.1
  have hbA : ¬ (fun q : Nat => s.heap.size ≤ q) b := Nat.not_le.mpr hbl
  have hB : G.2.2.1 ≤ K.1 := hw.2.2.1
  obtain ⟨r, m1, m2, e1, e2, inv'⟩ := nc_INV_sim hJ.2.2.1 (nc_J_z hJ) inv (fun A wf => sim_law wf (xs (x3 + 1).toNatClampNeg))
  refine lv_aload_n hx hb dL_law_307 rfl (lv_at hl 1 rfl) ?_
  refine lv_aload_n hx hb dL_law_308 rfl (lv_at hl 0 rfl) ?_
  refine lv_iload_n hx hb dL_law_309 rfl (lv_at hl 3 rfl) ?_
  refine lv_iconst (v := 1) hx hb dL_law_310 (by decide) ?_
  refine lv_iadd hx hb dL_law_311 ?_
  refine va_sld hx hb hX hbl hbA (nc_S_of hG hw) in1 dL_law_312 ?_
  refine nc_dallVi ⟨Nat.le_trans (Nat.le_add_right _ _) hcs.1, Nat.le_trans (Nat.le_add_right _ _) hcs.2⟩ cx hw lk_L_36 (c_X7_law l hJ.1 mi (xs (x3 + 1).toNatClampNeg) (m1, r) e1) (ci := 7) rfl (lNC_is hJ.1) rfl hl.1 rfl (Nat.le_of_ble_eq_true rfl) ⟨rfl, rfl, Nat.le_of_ble_eq_true rfl, Nat.le_of_ble_eq_true rfl⟩ dL_law_313 (fun H locs hw => ?_)
  refine lv_aload_n hx hb dL_law_316 rfl (lv_at hl 2 rfl) ?_
  refine lv_aload_n hx hb dL_law_317 rfl (lv_at hl 0 rfl) ?_
  refine lv_iload_n hx hb dL_law_318 rfl (lv_at hl 3 rfl) ?_
  refine lv_iconst (v := 1) hx hb dL_law_319 (by decide) ?_
  refine lv_iadd hx hb dL_law_320 ?_
  refine va_sld hx hb hX hbl hbA (nc_S_of hG hw) in1 dL_law_321 ?_
  refine nc_dallVi ⟨Nat.le_trans (Nat.le_add_right _ _) hcs.1, Nat.le_trans (Nat.le_add_right _ _) hcs.2⟩ cx hw lk_L_39 (c_X8_law l hJ.2.1 m1 (xs (x3 + 1).toNatClampNeg) (m2, r) e2) (ci := 8) rfl (lModel_is hJ.2.1) rfl hl.1 rfl (Nat.le_of_ble_eq_true rfl) ⟨rfl, rfl, Nat.le_of_ble_eq_true rfl, Nat.le_of_ble_eq_true rfl⟩ dL_law_322 (fun H locs hw => ?_)
  refine lv_icmp_eq (tgt := 955) hx hb dL_law_325 (by decide) (fun _ => ?_) (fun hne => absurd rfl hne)
  exact kk K _ _ _ _ _ _ hJ inv' hw (Nat.le_add_right _ _) (Nat.le_add_right _ _) hl
set_option maxRecDepth 100000 in
set_option maxHeartbeats 4000000 in
theorem lc_6 {p : Program} {e : Env} {s : State} {m : MethodId} {below : List Frame} {meth : Method} {c : Code} {Q : State → Prop} (l : Launch) {b L : Nat} {xs : Nat → Int32} {G : nc_G} {K : nc_K} {mi : nc_Mem} {H : Heap} {locs : List Loc} {ls : Array Slot} {X M n cells slots : Nat} {x3 : Int32} (cx : nc_C p s m #[Value.ref b] c cL_law 4 RL G) (hX : va_X b L xs s s.heap) (hbl : b < s.heap.size) (hG : G.2.2.1 = s.heap.size ∧ G.2.2.2.1 = s.heap) (hJ : nc_J G K X M) (inv : nc_INV n X M (K.2.2 M 12) mi) (hn : n ≤ 1000) (hw : nc_W G K mi H locs) (hl : lv_has ls 4 [(0, .ref b), (1, .ref X), (2, .ref M), (3, .int x3)]) (in1 : vp_in (x3 + 1) L) (in2 : vp_in (x3 + 2) L) (in3 : vp_in (x3 + 3) L) (hcs : cells + 54 ≤ room_1.cells ∧ slots + 467 ≤ room_1.slots) (kk : nc_Kk p l e s m b below meth c Q G X M n x3 cells slots) : W p l e room_1 s m #[Value.ref b] below meth c H locs cells slots Q (F0 m 330 ls []) := by
  have hx := cx.1
  have hb := cx.2.1
  have hbA : ¬ (fun q : Nat => s.heap.size ≤ q) b := Nat.not_le.mpr hbl
  have hB : G.2.2.1 ≤ K.1 := hw.2.2.1
  obtain ⟨r, m1, m2, e1, e2, inv'⟩ := nc_INV_sim hJ.2.2.1 (nc_J_z hJ) inv (fun A wf => sim_may wf hn (xs (x3 + 1).toNatClampNeg) (xs (x3 + 2).toNatClampNeg) (xs (x3 + 3).toNatClampNeg))
  refine lv_aload_n hx hb dL_law_330 rfl (lv_at hl 1 rfl) ?_
  refine lv_aload_n hx hb dL_law_331 rfl (lv_at hl 0 rfl) ?_
  refine lv_iload_n hx hb dL_law_332 rfl (lv_at hl 3 rfl) ?_
  refine lv_iconst (v := 1) hx hb dL_law_333 (by decide) ?_
  refine lv_iadd hx hb dL_law_334 ?_
  refine va_sld hx hb hX hbl hbA (nc_S_of hG hw) in1 dL_law_335 ?_
  refine lv_aload_n hx hb dL_law_336 rfl (lv_at hl 0 rfl) ?_
  refine lv_iload_n hx hb dL_law_337 rfl (lv_at hl 3 rfl) ?_
  refine lv_iconst (v := 2) hx hb dL_law_338 (by decide) ?_
  refine lv_iadd hx hb dL_law_339 ?_
  refine va_sld hx hb hX hbl hbA (nc_S_of hG hw) in2 dL_law_340 ?_
  refine lv_aload_n hx hb dL_law_341 rfl (lv_at hl 0 rfl) ?_
  refine lv_iload_n hx hb dL_law_342 rfl (lv_at hl 3 rfl) ?_
  refine lv_iconst (v := 3) hx hb dL_law_343 (by decide) ?_
  refine lv_iadd hx hb dL_law_344 ?_
  refine va_sld hx hb hX hbl hbA (nc_S_of hG hw) in3 dL_law_345 ?_
  refine nc_dallVi ⟨Nat.le_trans (Nat.le_add_right _ _) hcs.1, Nat.le_trans (Nat.le_add_right _ _) hcs.2⟩ cx hw lk_L_40 (c_X7_may l hJ.1 mi (xs (x3 + 1).toNatClampNeg) (xs (x3 + 2).toNatClampNeg) (xs (x3 + 3).toNatClampNeg) (m1, r) e1) (ci := 7) rfl (lNC_is hJ.1) rfl hl.1 rfl (Nat.le_of_ble_eq_true rfl) ⟨rfl, rfl, Nat.le_of_ble_eq_true rfl, Nat.le_of_ble_eq_true rfl⟩ dL_law_346 (fun H locs hw => ?_)
  refine lv_aload_n hx hb dL_law_349 rfl (lv_at hl 2 rfl) ?_
  refine lv_aload_n hx hb dL_law_350 rfl (lv_at hl 0 rfl) ?_
  refine lv_iload_n hx hb dL_law_351 rfl (lv_at hl 3 rfl) ?_
  refine lv_iconst (v := 1) hx hb dL_law_352 (by decide) ?_
  refine lv_iadd hx hb dL_law_353 ?_
  refine va_sld hx hb hX hbl hbA (nc_S_of hG hw) in1 dL_law_354 ?_
  refine lv_aload_n hx hb dL_law_355 rfl (lv_at hl 0 rfl) ?_
  refine lv_iload_n hx hb dL_law_356 rfl (lv_at hl 3 rfl) ?_
  refine lv_iconst (v := 2) hx hb dL_law_357 (by decide) ?_
  refine lv_iadd hx hb dL_law_358 ?_
  refine va_sld hx hb hX hbl hbA (nc_S_of hG hw) in2 dL_law_359 ?_
  refine lv_aload_n hx hb dL_law_360 rfl (lv_at hl 0 rfl) ?_
  refine lv_iload_n hx hb dL_law_361 rfl (lv_at hl 3 rfl) ?_
  refine lv_iconst (v := 3) hx hb dL_law_362 (by decide) ?_
  refine lv_iadd hx hb dL_law_363 ?_
  refine va_sld hx hb hX hbl hbA (nc_S_of hG hw) in3 dL_law_364 ?_
  refine nc_dallVi ⟨Nat.le_trans (Nat.le_add_right _ _) hcs.1, Nat.le_trans (Nat.le_add_right _ _) hcs.2⟩ cx hw lk_L_44 (c_X8_may l hJ.2.1 m1 (xs (x3 + 1).toNatClampNeg) (xs (x3 + 2).toNatClampNeg) (xs (x3 + 3).toNatClampNeg) (m2, r) e2) (ci := 8) rfl (lModel_is hJ.2.1) rfl hl.1 rfl (Nat.le_of_ble_eq_true rfl) ⟨rfl, rfl, Nat.le_of_ble_eq_true rfl, Nat.le_of_ble_eq_true rfl⟩ dL_law_365 (fun H locs hw => ?_)
  refine lv_icmp_eq (tgt := 955) hx hb dL_law_368 (by decide) (fun _ => ?_) (fun hne => absurd rfl hne)
  exact kk K _ _ _ _ _ _ hJ inv' hw (Nat.le_add_right _ _) (Nat.le_add_right _ _) hl
set_option maxRecDepth 100000 in
set_option maxHeartbeats 4000000 in
theorem lc_7 {p : Program} {e : Env} {s : State} {m : MethodId} {below : List Frame} {meth : Method} {c : Code} {Q : State → Prop} (l : Launch) {b L : Nat} {xs : Nat → Int32} {G : nc_G} {K : nc_K} {mi : nc_Mem} {H : Heap} {locs : List Loc} {ls : Array Slot} {X M n cells slots : Nat} {x3 : Int32} (cx : nc_C p s m #[Value.ref b] c cL_law 4 RL G) (hX : va_X b L xs s s.heap) (hbl : b < s.heap.size) (hG : G.2.2.1 = s.heap.size ∧ G.2.2.2.1 = s.heap) (hJ : nc_J G K X M) (inv : nc_INV n X M (K.2.2 M 12) mi) (hn : n ≤ 1000) (hw : nc_W G K mi H locs) (hl : lv_has ls 4 [(0, .ref b), (1, .ref X), (2, .ref M), (3, .int x3)]) (in1 : vp_in (x3 + 1) L) (in2 : vp_in (x3 + 2) L) (in3 : vp_in (x3 + 3) L) (hcs : cells + 54 ≤ room_1.cells ∧ slots + 467 ≤ room_1.slots) (kk : nc_Kk p l e s m b below meth c Q G X M n x3 cells slots) : W p l e room_1 s m #[Value.ref b] below meth c H locs cells slots Q (F0 m 373 ls []) := by
  have hx := cx.1
  have hb := cx.2.1
  have hbA : ¬ (fun q : Nat => s.heap.size ≤ q) b := Nat.not_le.mpr hbl
  have hB : G.2.2.1 ≤ K.1 := hw.2.2.1
  obtain ⟨r, m1, m2, e1, e2, inv'⟩ := nc_INV_sim hJ.2.2.1 (nc_J_z hJ) inv (fun A wf => sim_take wf hn (xs (x3 + 1).toNatClampNeg) (xs (x3 + 2).toNatClampNeg))
  refine lv_aload_n hx hb dL_law_373 rfl (lv_at hl 1 rfl) ?_
  refine lv_aload_n hx hb dL_law_374 rfl (lv_at hl 0 rfl) ?_
  refine lv_iload_n hx hb dL_law_375 rfl (lv_at hl 3 rfl) ?_
  refine lv_iconst (v := 1) hx hb dL_law_376 (by decide) ?_
  refine lv_iadd hx hb dL_law_377 ?_
  refine va_sld hx hb hX hbl hbA (nc_S_of hG hw) in1 dL_law_378 ?_
  refine lv_aload_n hx hb dL_law_379 rfl (lv_at hl 0 rfl) ?_
  refine lv_iload_n hx hb dL_law_380 rfl (lv_at hl 3 rfl) ?_
  refine lv_iconst (v := 2) hx hb dL_law_381 (by decide) ?_
  refine lv_iadd hx hb dL_law_382 ?_
  refine va_sld hx hb hX hbl hbA (nc_S_of hG hw) in2 dL_law_383 ?_
  refine nc_dallVi ⟨Nat.le_trans (Nat.le_add_right _ _) hcs.1, Nat.le_trans (Nat.le_add_right _ _) hcs.2⟩ cx hw lk_L_45 (c_X7_take l hJ.1 mi (xs (x3 + 1).toNatClampNeg) (xs (x3 + 2).toNatClampNeg) (m1, r) e1) (ci := 7) rfl (lNC_is hJ.1) rfl hl.1 rfl (Nat.le_of_ble_eq_true rfl) ⟨rfl, rfl, Nat.le_of_ble_eq_true rfl, Nat.le_of_ble_eq_true rfl⟩ dL_law_384 (fun H locs hw => ?_)
  refine lv_aload_n hx hb dL_law_387 rfl (lv_at hl 2 rfl) ?_
  refine lv_aload_n hx hb dL_law_388 rfl (lv_at hl 0 rfl) ?_
  refine lv_iload_n hx hb dL_law_389 rfl (lv_at hl 3 rfl) ?_
  refine lv_iconst (v := 1) hx hb dL_law_390 (by decide) ?_
  refine lv_iadd hx hb dL_law_391 ?_
  refine va_sld hx hb hX hbl hbA (nc_S_of hG hw) in1 dL_law_392 ?_
  refine lv_aload_n hx hb dL_law_393 rfl (lv_at hl 0 rfl) ?_
  refine lv_iload_n hx hb dL_law_394 rfl (lv_at hl 3 rfl) ?_
  refine lv_iconst (v := 2) hx hb dL_law_395 (by decide) ?_
  refine lv_iadd hx hb dL_law_396 ?_
  refine va_sld hx hb hX hbl hbA (nc_S_of hG hw) in2 dL_law_397 ?_
  refine nc_dallVi ⟨Nat.le_trans (Nat.le_add_right _ _) hcs.1, Nat.le_trans (Nat.le_add_right _ _) hcs.2⟩ cx hw lk_L_48 (c_X8_take l hJ.2.1 m1 (xs (x3 + 1).toNatClampNeg) (xs (x3 + 2).toNatClampNeg) (m2, r) e2) (ci := 8) rfl (lModel_is hJ.2.1) rfl hl.1 rfl (Nat.le_of_ble_eq_true rfl) ⟨rfl, rfl, Nat.le_of_ble_eq_true rfl, Nat.le_of_ble_eq_true rfl⟩ dL_law_398 (fun H locs hw => ?_)
  refine lv_icmp_eq (tgt := 955) hx hb dL_law_401 (by decide) (fun _ => ?_) (fun hne => absurd rfl hne)
  exact kk K _ _ _ _ _ _ hJ inv' hw (Nat.le_add_right _ _) (Nat.le_add_right _ _) hl
set_option maxRecDepth 100000 in
set_option maxHeartbeats 4000000 in
theorem lc_8 {p : Program} {e : Env} {s : State} {m : MethodId} {below : List Frame} {meth : Method} {c : Code} {Q : State → Prop} (l : Launch) {b L : Nat} {xs : Nat → Int32} {G : nc_G} {K : nc_K} {mi : nc_Mem} {H : Heap} {locs : List Loc} {ls : Array Slot} {X M n cells slots : Nat} {x3 : Int32} (cx : nc_C p s m #[Value.ref b] c cL_law 4 RL G) (hX : va_X b L xs s s.heap) (hbl : b < s.heap.size) (hG : G.2.2.1 = s.heap.size ∧ G.2.2.2.1 = s.heap) (hJ : nc_J G K X M) (inv : nc_INV n X M (K.2.2 M 12) mi) (hn : n ≤ 1000) (hw : nc_W G K mi H locs) (hl : lv_has ls 4 [(0, .ref b), (1, .ref X), (2, .ref M), (3, .int x3)]) (in1 : vp_in (x3 + 1) L) (in2 : vp_in (x3 + 2) L) (in3 : vp_in (x3 + 3) L) (hcs : cells + 54 ≤ room_1.cells ∧ slots + 467 ≤ room_1.slots) (kk : nc_Kk p l e s m b below meth c Q G X M n x3 cells slots) : W p l e room_1 s m #[Value.ref b] below meth c H locs cells slots Q (F0 m 406 ls []) := by
  have hx := cx.1
  have hb := cx.2.1
  have hbA : ¬ (fun q : Nat => s.heap.size ≤ q) b := Nat.not_le.mpr hbl
  have hB : G.2.2.1 ≤ K.1 := hw.2.2.1
  obtain ⟨r, m1, m2, e1, e2, inv'⟩ := nc_INV_sim hJ.2.2.1 (nc_J_z hJ) inv (fun A wf => sim_go wf hn (xs (x3 + 1).toNatClampNeg) (xs (x3 + 2).toNatClampNeg))
  refine lv_aload_n hx hb dL_law_406 rfl (lv_at hl 1 rfl) ?_
  refine lv_aload_n hx hb dL_law_407 rfl (lv_at hl 0 rfl) ?_
  refine lv_iload_n hx hb dL_law_408 rfl (lv_at hl 3 rfl) ?_
  refine lv_iconst (v := 1) hx hb dL_law_409 (by decide) ?_
  refine lv_iadd hx hb dL_law_410 ?_
  refine va_sld hx hb hX hbl hbA (nc_S_of hG hw) in1 dL_law_411 ?_
  refine lv_aload_n hx hb dL_law_412 rfl (lv_at hl 0 rfl) ?_
  refine lv_iload_n hx hb dL_law_413 rfl (lv_at hl 3 rfl) ?_
  refine lv_iconst (v := 2) hx hb dL_law_414 (by decide) ?_
  refine lv_iadd hx hb dL_law_415 ?_
  refine va_sld hx hb hX hbl hbA (nc_S_of hG hw) in2 dL_law_416 ?_
  refine nc_dallVi ⟨Nat.le_trans (Nat.le_add_right _ _) hcs.1, Nat.le_trans (Nat.le_add_right _ _) hcs.2⟩ cx hw lk_L_49 (c_X7_go l hJ.1 mi (xs (x3 + 1).toNatClampNeg) (xs (x3 + 2).toNatClampNeg) (m1, r) e1) (ci := 7) rfl (lNC_is hJ.1) rfl hl.1 rfl (Nat.le_of_ble_eq_true rfl) ⟨rfl, rfl, Nat.le_of_ble_eq_true rfl, Nat.le_of_ble_eq_true rfl⟩ dL_law_417 (fun H locs hw => ?_)
  refine lv_aload_n hx hb dL_law_420 rfl (lv_at hl 2 rfl) ?_
  refine lv_aload_n hx hb dL_law_421 rfl (lv_at hl 0 rfl) ?_
  refine lv_iload_n hx hb dL_law_422 rfl (lv_at hl 3 rfl) ?_
  refine lv_iconst (v := 1) hx hb dL_law_423 (by decide) ?_
  refine lv_iadd hx hb dL_law_424 ?_
  refine va_sld hx hb hX hbl hbA (nc_S_of hG hw) in1 dL_law_425 ?_
  refine lv_aload_n hx hb dL_law_426 rfl (lv_at hl 0 rfl) ?_
  refine lv_iload_n hx hb dL_law_427 rfl (lv_at hl 3 rfl) ?_
  refine lv_iconst (v := 2) hx hb dL_law_428 (by decide) ?_
  refine lv_iadd hx hb dL_law_429 ?_
  refine va_sld hx hb hX hbl hbA (nc_S_of hG hw) in2 dL_law_430 ?_
  refine nc_dallVi ⟨Nat.le_trans (Nat.le_add_right _ _) hcs.1, Nat.le_trans (Nat.le_add_right _ _) hcs.2⟩ cx hw lk_L_52 (c_X8_go l hJ.2.1 m1 (xs (x3 + 1).toNatClampNeg) (xs (x3 + 2).toNatClampNeg) (m2, r) e2) (ci := 8) rfl (lModel_is hJ.2.1) rfl hl.1 rfl (Nat.le_of_ble_eq_true rfl) ⟨rfl, rfl, Nat.le_of_ble_eq_true rfl, Nat.le_of_ble_eq_true rfl⟩ dL_law_431 (fun H locs hw => ?_)
  refine lv_icmp_eq (tgt := 955) hx hb dL_law_434 (by decide) (fun _ => ?_) (fun hne => absurd rfl hne)
  exact kk K _ _ _ _ _ _ hJ inv' hw (Nat.le_add_right _ _) (Nat.le_add_right _ _) hl
set_option maxRecDepth 100000 in
set_option maxHeartbeats 4000000 in
theorem lc_9 {p : Program} {e : Env} {s : State} {m : MethodId} {below : List Frame} {meth : Method} {c : Code} {Q : State → Prop} (l : Launch) {b L : Nat} {xs : Nat → Int32} {G : nc_G} {K : nc_K} {mi : nc_Mem} {H : Heap} {locs : List Loc} {ls : Array Slot} {X M n cells slots : Nat} {x3 : Int32} (cx : nc_C p s m #[Value.ref b] c cL_law 4 RL G) (hX : va_X b L xs s s.heap) (hbl : b < s.heap.size) (hG : G.2.2.1 = s.heap.size ∧ G.2.2.2.1 = s.heap) (hJ : nc_J G K X M) (inv : nc_INV n X M (K.2.2 M 12) mi) (hn : n ≤ 1000) (hw : nc_W G K mi H locs) (hl : lv_has ls 4 [(0, .ref b), (1, .ref X), (2, .ref M), (3, .int x3)]) (in1 : vp_in (x3 + 1) L) (in2 : vp_in (x3 + 2) L) (in3 : vp_in (x3 + 3) L) (hcs : cells + 54 ≤ room_1.cells ∧ slots + 467 ≤ room_1.slots) (kk : nc_Kk p l e s m b below meth c Q G X M n x3 cells slots) : W p l e room_1 s m #[Value.ref b] below meth c H locs cells slots Q (F0 m 439 ls []) := by
  have hx := cx.1
  have hb := cx.2.1
  have hbA : ¬ (fun q : Nat => s.heap.size ≤ q) b := Nat.not_le.mpr hbl
  have hB : G.2.2.1 ≤ K.1 := hw.2.2.1
  obtain ⟨r, m1, m2, e1, e2, inv'⟩ := nc_INV_sim hJ.2.2.1 (nc_J_z hJ) inv (fun A wf => sim_lay wf (xs (x3 + 1).toNatClampNeg) (xs (x3 + 2).toNatClampNeg))
  refine lv_aload_n hx hb dL_law_439 rfl (lv_at hl 1 rfl) ?_
  refine lv_aload_n hx hb dL_law_440 rfl (lv_at hl 0 rfl) ?_
  refine lv_iload_n hx hb dL_law_441 rfl (lv_at hl 3 rfl) ?_
  refine lv_iconst (v := 1) hx hb dL_law_442 (by decide) ?_
  refine lv_iadd hx hb dL_law_443 ?_
  refine va_sld hx hb hX hbl hbA (nc_S_of hG hw) in1 dL_law_444 ?_
  refine lv_aload_n hx hb dL_law_445 rfl (lv_at hl 0 rfl) ?_
  refine lv_iload_n hx hb dL_law_446 rfl (lv_at hl 3 rfl) ?_
  refine lv_iconst (v := 2) hx hb dL_law_447 (by decide) ?_
  refine lv_iadd hx hb dL_law_448 ?_
  refine va_sld hx hb hX hbl hbA (nc_S_of hG hw) in2 dL_law_449 ?_
  refine nc_dallVi ⟨Nat.le_trans (Nat.le_add_right _ _) hcs.1, Nat.le_trans (Nat.le_add_right _ _) hcs.2⟩ cx hw lk_L_53 (c_X7_lay l hJ.1 mi (xs (x3 + 1).toNatClampNeg) (xs (x3 + 2).toNatClampNeg) (m1, r) e1) (ci := 7) rfl (lNC_is hJ.1) rfl hl.1 rfl (Nat.le_of_ble_eq_true rfl) ⟨rfl, rfl, Nat.le_of_ble_eq_true rfl, Nat.le_of_ble_eq_true rfl⟩ dL_law_450 (fun H locs hw => ?_)
  refine lv_aload_n hx hb dL_law_453 rfl (lv_at hl 2 rfl) ?_
  refine lv_aload_n hx hb dL_law_454 rfl (lv_at hl 0 rfl) ?_
  refine lv_iload_n hx hb dL_law_455 rfl (lv_at hl 3 rfl) ?_
  refine lv_iconst (v := 1) hx hb dL_law_456 (by decide) ?_
  refine lv_iadd hx hb dL_law_457 ?_
  refine va_sld hx hb hX hbl hbA (nc_S_of hG hw) in1 dL_law_458 ?_
  refine lv_aload_n hx hb dL_law_459 rfl (lv_at hl 0 rfl) ?_
  refine lv_iload_n hx hb dL_law_460 rfl (lv_at hl 3 rfl) ?_
  refine lv_iconst (v := 2) hx hb dL_law_461 (by decide) ?_
  refine lv_iadd hx hb dL_law_462 ?_
  refine va_sld hx hb hX hbl hbA (nc_S_of hG hw) in2 dL_law_463 ?_
  refine nc_dallVi ⟨Nat.le_trans (Nat.le_add_right _ _) hcs.1, Nat.le_trans (Nat.le_add_right _ _) hcs.2⟩ cx hw lk_L_56 (c_X8_lay l hJ.2.1 m1 (xs (x3 + 1).toNatClampNeg) (xs (x3 + 2).toNatClampNeg) (m2, r) e2) (ci := 8) rfl (lModel_is hJ.2.1) rfl hl.1 rfl (Nat.le_of_ble_eq_true rfl) ⟨rfl, rfl, Nat.le_of_ble_eq_true rfl, Nat.le_of_ble_eq_true rfl⟩ dL_law_464 (fun H locs hw => ?_)
  refine lv_icmp_eq (tgt := 955) hx hb dL_law_467 (by decide) (fun _ => ?_) (fun hne => absurd rfl hne)
  exact kk K _ _ _ _ _ _ hJ inv' hw (Nat.le_add_right _ _) (Nat.le_add_right _ _) hl
set_option maxRecDepth 100000 in
set_option maxHeartbeats 4000000 in
theorem lc_10 {p : Program} {e : Env} {s : State} {m : MethodId} {below : List Frame} {meth : Method} {c : Code} {Q : State → Prop} (l : Launch) {b L : Nat} {xs : Nat → Int32} {G : nc_G} {K : nc_K} {mi : nc_Mem} {H : Heap} {locs : List Loc} {ls : Array Slot} {X M n cells slots : Nat} {x3 : Int32} (cx : nc_C p s m #[Value.ref b] c cL_law 4 RL G) (hX : va_X b L xs s s.heap) (hbl : b < s.heap.size) (hG : G.2.2.1 = s.heap.size ∧ G.2.2.2.1 = s.heap) (hJ : nc_J G K X M) (inv : nc_INV n X M (K.2.2 M 12) mi) (hn : n ≤ 1000) (hw : nc_W G K mi H locs) (hl : lv_has ls 4 [(0, .ref b), (1, .ref X), (2, .ref M), (3, .int x3)]) (in1 : vp_in (x3 + 1) L) (in2 : vp_in (x3 + 2) L) (in3 : vp_in (x3 + 3) L) (hcs : cells + 54 ≤ room_1.cells ∧ slots + 467 ≤ room_1.slots) (kk : nc_Kk p l e s m b below meth c Q G X M n x3 cells slots) : W p l e room_1 s m #[Value.ref b] below meth c H locs cells slots Q (F0 m 472 ls []) := by
  have hx := cx.1
  have hb := cx.2.1
  have hbA : ¬ (fun q : Nat => s.heap.size ≤ q) b := Nat.not_le.mpr hbl
  have hB : G.2.2.1 ≤ K.1 := hw.2.2.1
  obtain ⟨r, m1, m2, e1, e2, inv'⟩ := nc_INV_sim hJ.2.2.1 (nc_J_z hJ) inv (fun A wf => sim_hand wf hn (xs (x3 + 1).toNatClampNeg) (xs (x3 + 2).toNatClampNeg) (xs (x3 + 3).toNatClampNeg))
  refine lv_aload_n hx hb dL_law_472 rfl (lv_at hl 1 rfl) ?_
  refine lv_aload_n hx hb dL_law_473 rfl (lv_at hl 0 rfl) ?_
  refine lv_iload_n hx hb dL_law_474 rfl (lv_at hl 3 rfl) ?_
  refine lv_iconst (v := 1) hx hb dL_law_475 (by decide) ?_
  refine lv_iadd hx hb dL_law_476 ?_
  refine va_sld hx hb hX hbl hbA (nc_S_of hG hw) in1 dL_law_477 ?_
  refine lv_aload_n hx hb dL_law_478 rfl (lv_at hl 0 rfl) ?_
  refine lv_iload_n hx hb dL_law_479 rfl (lv_at hl 3 rfl) ?_
  refine lv_iconst (v := 2) hx hb dL_law_480 (by decide) ?_
  refine lv_iadd hx hb dL_law_481 ?_
  refine va_sld hx hb hX hbl hbA (nc_S_of hG hw) in2 dL_law_482 ?_
  refine lv_aload_n hx hb dL_law_483 rfl (lv_at hl 0 rfl) ?_
  refine lv_iload_n hx hb dL_law_484 rfl (lv_at hl 3 rfl) ?_
  refine lv_iconst (v := 3) hx hb dL_law_485 (by decide) ?_
  refine lv_iadd hx hb dL_law_486 ?_
  refine va_sld hx hb hX hbl hbA (nc_S_of hG hw) in3 dL_law_487 ?_
  refine nc_dallVi ⟨Nat.le_trans (Nat.le_add_right _ _) hcs.1, Nat.le_trans (Nat.le_add_right _ _) hcs.2⟩ cx hw lk_L_57 (c_X7_hand l hJ.1 mi (xs (x3 + 1).toNatClampNeg) (xs (x3 + 2).toNatClampNeg) (xs (x3 + 3).toNatClampNeg) (m1, r) e1) (ci := 7) rfl (lNC_is hJ.1) rfl hl.1 rfl (Nat.le_of_ble_eq_true rfl) ⟨rfl, rfl, Nat.le_of_ble_eq_true rfl, Nat.le_of_ble_eq_true rfl⟩ dL_law_488 (fun H locs hw => ?_)
  refine lv_aload_n hx hb dL_law_491 rfl (lv_at hl 2 rfl) ?_
  refine lv_aload_n hx hb dL_law_492 rfl (lv_at hl 0 rfl) ?_
  refine lv_iload_n hx hb dL_law_493 rfl (lv_at hl 3 rfl) ?_
  refine lv_iconst (v := 1) hx hb dL_law_494 (by decide) ?_
  refine lv_iadd hx hb dL_law_495 ?_
  refine va_sld hx hb hX hbl hbA (nc_S_of hG hw) in1 dL_law_496 ?_
  refine lv_aload_n hx hb dL_law_497 rfl (lv_at hl 0 rfl) ?_
  refine lv_iload_n hx hb dL_law_498 rfl (lv_at hl 3 rfl) ?_
  refine lv_iconst (v := 2) hx hb dL_law_499 (by decide) ?_
  refine lv_iadd hx hb dL_law_500 ?_
  refine va_sld hx hb hX hbl hbA (nc_S_of hG hw) in2 dL_law_501 ?_
  refine lv_aload_n hx hb dL_law_502 rfl (lv_at hl 0 rfl) ?_
  refine lv_iload_n hx hb dL_law_503 rfl (lv_at hl 3 rfl) ?_
  refine lv_iconst (v := 3) hx hb dL_law_504 (by decide) ?_
  refine lv_iadd hx hb dL_law_505 ?_
  refine va_sld hx hb hX hbl hbA (nc_S_of hG hw) in3 dL_law_506 ?_
  refine nc_dallVi ⟨Nat.le_trans (Nat.le_add_right _ _) hcs.1, Nat.le_trans (Nat.le_add_right _ _) hcs.2⟩ cx hw lk_L_60 (c_X8_hand l hJ.2.1 m1 (xs (x3 + 1).toNatClampNeg) (xs (x3 + 2).toNatClampNeg) (xs (x3 + 3).toNatClampNeg) (m2, r) e2) (ci := 8) rfl (lModel_is hJ.2.1) rfl hl.1 rfl (Nat.le_of_ble_eq_true rfl) ⟨rfl, rfl, Nat.le_of_ble_eq_true rfl, Nat.le_of_ble_eq_true rfl⟩ dL_law_507 (fun H locs hw => ?_)
  refine lv_icmp_eq (tgt := 955) hx hb dL_law_510 (by decide) (fun _ => ?_) (fun hne => absurd rfl hne)
  exact kk K _ _ _ _ _ _ hJ inv' hw (Nat.le_add_right _ _) (Nat.le_add_right _ _) hl
set_option maxRecDepth 100000 in
set_option maxHeartbeats 4000000 in
theorem lc_11 {p : Program} {e : Env} {s : State} {m : MethodId} {below : List Frame} {meth : Method} {c : Code} {Q : State → Prop} (l : Launch) {b L : Nat} {xs : Nat → Int32} {G : nc_G} {K : nc_K} {mi : nc_Mem} {H : Heap} {locs : List Loc} {ls : Array Slot} {X M n cells slots : Nat} {x3 : Int32} (cx : nc_C p s m #[Value.ref b] c cL_law 4 RL G) (hX : va_X b L xs s s.heap) (hbl : b < s.heap.size) (hG : G.2.2.1 = s.heap.size ∧ G.2.2.2.1 = s.heap) (hJ : nc_J G K X M) (inv : nc_INV n X M (K.2.2 M 12) mi) (hn : n ≤ 1000) (hw : nc_W G K mi H locs) (hl : lv_has ls 4 [(0, .ref b), (1, .ref X), (2, .ref M), (3, .int x3)]) (in1 : vp_in (x3 + 1) L) (in2 : vp_in (x3 + 2) L) (in3 : vp_in (x3 + 3) L) (hcs : cells + 54 ≤ room_1.cells ∧ slots + 467 ≤ room_1.slots) (kk : nc_Kk p l e s m b below meth c Q G X M n x3 cells slots) : W p l e room_1 s m #[Value.ref b] below meth c H locs cells slots Q (F0 m 515 ls []) := by
  have hx := cx.1
  have hb := cx.2.1
  have hbA : ¬ (fun q : Nat => s.heap.size ≤ q) b := Nat.not_le.mpr hbl
  have hB : G.2.2.1 ≤ K.1 := hw.2.2.1
  obtain ⟨r, m1, m2, e1, e2, inv'⟩ := nc_INV_sim hJ.2.2.1 (nc_J_z hJ) inv (fun A wf => sim_tarry wf hn (xs (x3 + 1).toNatClampNeg) (xs (x3 + 2).toNatClampNeg))
  refine lv_aload_n hx hb dL_law_515 rfl (lv_at hl 1 rfl) ?_
  refine lv_aload_n hx hb dL_law_516 rfl (lv_at hl 0 rfl) ?_
  refine lv_iload_n hx hb dL_law_517 rfl (lv_at hl 3 rfl) ?_
  refine lv_iconst (v := 1) hx hb dL_law_518 (by decide) ?_
  refine lv_iadd hx hb dL_law_519 ?_
  refine va_sld hx hb hX hbl hbA (nc_S_of hG hw) in1 dL_law_520 ?_
  refine lv_aload_n hx hb dL_law_521 rfl (lv_at hl 0 rfl) ?_
  refine lv_iload_n hx hb dL_law_522 rfl (lv_at hl 3 rfl) ?_
  refine lv_iconst (v := 2) hx hb dL_law_523 (by decide) ?_
  refine lv_iadd hx hb dL_law_524 ?_
  refine va_sld hx hb hX hbl hbA (nc_S_of hG hw) in2 dL_law_525 ?_
  refine nc_dallVi ⟨Nat.le_trans (Nat.le_add_right _ _) hcs.1, Nat.le_trans (Nat.le_add_right _ _) hcs.2⟩ cx hw lk_L_61 (c_X7_tarry l hJ.1 mi (xs (x3 + 1).toNatClampNeg) (xs (x3 + 2).toNatClampNeg) (m1, r) e1) (ci := 7) rfl (lNC_is hJ.1) rfl hl.1 rfl (Nat.le_of_ble_eq_true rfl) ⟨rfl, rfl, Nat.le_of_ble_eq_true rfl, Nat.le_of_ble_eq_true rfl⟩ dL_law_526 (fun H locs hw => ?_)
  refine lv_aload_n hx hb dL_law_529 rfl (lv_at hl 2 rfl) ?_
  refine lv_aload_n hx hb dL_law_530 rfl (lv_at hl 0 rfl) ?_
  refine lv_iload_n hx hb dL_law_531 rfl (lv_at hl 3 rfl) ?_
  refine lv_iconst (v := 1) hx hb dL_law_532 (by decide) ?_
  refine lv_iadd hx hb dL_law_533 ?_
  refine va_sld hx hb hX hbl hbA (nc_S_of hG hw) in1 dL_law_534 ?_
  refine lv_aload_n hx hb dL_law_535 rfl (lv_at hl 0 rfl) ?_
  refine lv_iload_n hx hb dL_law_536 rfl (lv_at hl 3 rfl) ?_
  refine lv_iconst (v := 2) hx hb dL_law_537 (by decide) ?_
  refine lv_iadd hx hb dL_law_538 ?_
  refine va_sld hx hb hX hbl hbA (nc_S_of hG hw) in2 dL_law_539 ?_
  refine nc_dallVi ⟨Nat.le_trans (Nat.le_add_right _ _) hcs.1, Nat.le_trans (Nat.le_add_right _ _) hcs.2⟩ cx hw lk_L_64 (c_X8_tarry l hJ.2.1 m1 (xs (x3 + 1).toNatClampNeg) (xs (x3 + 2).toNatClampNeg) (m2, r) e2) (ci := 8) rfl (lModel_is hJ.2.1) rfl hl.1 rfl (Nat.le_of_ble_eq_true rfl) ⟨rfl, rfl, Nat.le_of_ble_eq_true rfl, Nat.le_of_ble_eq_true rfl⟩ dL_law_540 (fun H locs hw => ?_)
  refine lv_icmp_eq (tgt := 955) hx hb dL_law_543 (by decide) (fun _ => ?_) (fun hne => absurd rfl hne)
  exact kk K _ _ _ _ _ _ hJ inv' hw (Nat.le_add_right _ _) (Nat.le_add_right _ _) hl
set_option maxRecDepth 100000 in
set_option maxHeartbeats 4000000 in
theorem lc_12 {p : Program} {e : Env} {s : State} {m : MethodId} {below : List Frame} {meth : Method} {c : Code} {Q : State → Prop} (l : Launch) {b L : Nat} {xs : Nat → Int32} {G : nc_G} {K : nc_K} {mi : nc_Mem} {H : Heap} {locs : List Loc} {ls : Array Slot} {X M n cells slots : Nat} {x3 : Int32} (cx : nc_C p s m #[Value.ref b] c cL_law 4 RL G) (hX : va_X b L xs s s.heap) (hbl : b < s.heap.size) (hG : G.2.2.1 = s.heap.size ∧ G.2.2.2.1 = s.heap) (hJ : nc_J G K X M) (inv : nc_INV n X M (K.2.2 M 12) mi) (hn : n ≤ 1000) (hw : nc_W G K mi H locs) (hl : lv_has ls 4 [(0, .ref b), (1, .ref X), (2, .ref M), (3, .int x3)]) (in1 : vp_in (x3 + 1) L) (in2 : vp_in (x3 + 2) L) (in3 : vp_in (x3 + 3) L) (hcs : cells + 54 ≤ room_1.cells ∧ slots + 467 ≤ room_1.slots) (kk : nc_Kk p l e s m b below meth c Q G X M n x3 cells slots) : W p l e room_1 s m #[Value.ref b] below meth c H locs cells slots Q (F0 m 548 ls []) := by
  have hx := cx.1
  have hb := cx.2.1
  have hbA : ¬ (fun q : Nat => s.heap.size ≤ q) b := Nat.not_le.mpr hbl
  have hB : G.2.2.1 ≤ K.1 := hw.2.2.1
  obtain ⟨r, m1, m2, e1, e2, inv'⟩ := nc_INV_sim hJ.2.2.1 (nc_J_z hJ) inv (fun A wf => sim_give wf (xs (x3 + 1).toNatClampNeg) (xs (x3 + 2).toNatClampNeg))
  refine lv_aload_n hx hb dL_law_548 rfl (lv_at hl 1 rfl) ?_
  refine lv_aload_n hx hb dL_law_549 rfl (lv_at hl 0 rfl) ?_
  refine lv_iload_n hx hb dL_law_550 rfl (lv_at hl 3 rfl) ?_
  refine lv_iconst (v := 1) hx hb dL_law_551 (by decide) ?_
  refine lv_iadd hx hb dL_law_552 ?_
  refine va_sld hx hb hX hbl hbA (nc_S_of hG hw) in1 dL_law_553 ?_
  refine lv_aload_n hx hb dL_law_554 rfl (lv_at hl 0 rfl) ?_
  refine lv_iload_n hx hb dL_law_555 rfl (lv_at hl 3 rfl) ?_
  refine lv_iconst (v := 2) hx hb dL_law_556 (by decide) ?_
  refine lv_iadd hx hb dL_law_557 ?_
  refine va_sld hx hb hX hbl hbA (nc_S_of hG hw) in2 dL_law_558 ?_
  refine nc_dallVi ⟨Nat.le_trans (Nat.le_add_right _ _) hcs.1, Nat.le_trans (Nat.le_add_right _ _) hcs.2⟩ cx hw lk_L_65 (c_X7_give l hJ.1 mi (xs (x3 + 1).toNatClampNeg) (xs (x3 + 2).toNatClampNeg) (m1, r) e1) (ci := 7) rfl (lNC_is hJ.1) rfl hl.1 rfl (Nat.le_of_ble_eq_true rfl) ⟨rfl, rfl, Nat.le_of_ble_eq_true rfl, Nat.le_of_ble_eq_true rfl⟩ dL_law_559 (fun H locs hw => ?_)
  refine lv_aload_n hx hb dL_law_562 rfl (lv_at hl 2 rfl) ?_
  refine lv_aload_n hx hb dL_law_563 rfl (lv_at hl 0 rfl) ?_
  refine lv_iload_n hx hb dL_law_564 rfl (lv_at hl 3 rfl) ?_
  refine lv_iconst (v := 1) hx hb dL_law_565 (by decide) ?_
  refine lv_iadd hx hb dL_law_566 ?_
  refine va_sld hx hb hX hbl hbA (nc_S_of hG hw) in1 dL_law_567 ?_
  refine lv_aload_n hx hb dL_law_568 rfl (lv_at hl 0 rfl) ?_
  refine lv_iload_n hx hb dL_law_569 rfl (lv_at hl 3 rfl) ?_
  refine lv_iconst (v := 2) hx hb dL_law_570 (by decide) ?_
  refine lv_iadd hx hb dL_law_571 ?_
  refine va_sld hx hb hX hbl hbA (nc_S_of hG hw) in2 dL_law_572 ?_
  refine nc_dallVi ⟨Nat.le_trans (Nat.le_add_right _ _) hcs.1, Nat.le_trans (Nat.le_add_right _ _) hcs.2⟩ cx hw lk_L_68 (c_X8_give l hJ.2.1 m1 (xs (x3 + 1).toNatClampNeg) (xs (x3 + 2).toNatClampNeg) (m2, r) e2) (ci := 8) rfl (lModel_is hJ.2.1) rfl hl.1 rfl (Nat.le_of_ble_eq_true rfl) ⟨rfl, rfl, Nat.le_of_ble_eq_true rfl, Nat.le_of_ble_eq_true rfl⟩ dL_law_573 (fun H locs hw => ?_)
  refine lv_icmp_eq (tgt := 955) hx hb dL_law_576 (by decide) (fun _ => ?_) (fun hne => absurd rfl hne)
  exact kk K _ _ _ _ _ _ hJ inv' hw (Nat.le_add_right _ _) (Nat.le_add_right _ _) hl
set_option maxRecDepth 100000 in
set_option maxHeartbeats 4000000 in
theorem lc_13 {p : Program} {e : Env} {s : State} {m : MethodId} {below : List Frame} {meth : Method} {c : Code} {Q : State → Prop} (l : Launch) {b L : Nat} {xs : Nat → Int32} {G : nc_G} {K : nc_K} {mi : nc_Mem} {H : Heap} {locs : List Loc} {ls : Array Slot} {X M n cells slots : Nat} {x3 : Int32} (cx : nc_C p s m #[Value.ref b] c cL_law 4 RL G) (hX : va_X b L xs s s.heap) (hbl : b < s.heap.size) (hG : G.2.2.1 = s.heap.size ∧ G.2.2.2.1 = s.heap) (hJ : nc_J G K X M) (inv : nc_INV n X M (K.2.2 M 12) mi) (hn : n ≤ 1000) (hw : nc_W G K mi H locs) (hl : lv_has ls 4 [(0, .ref b), (1, .ref X), (2, .ref M), (3, .int x3)]) (in1 : vp_in (x3 + 1) L) (in2 : vp_in (x3 + 2) L) (in3 : vp_in (x3 + 3) L) (hcs : cells + 54 ≤ room_1.cells ∧ slots + 467 ≤ room_1.slots) (kk : nc_Kk p l e s m b below meth c Q G X M n x3 cells slots) : W p l e room_1 s m #[Value.ref b] below meth c H locs cells slots Q (F0 m 581 ls []) := by
  have hx := cx.1
  have hb := cx.2.1
  have hbA : ¬ (fun q : Nat => s.heap.size ≤ q) b := Nat.not_le.mpr hbl
  have hB : G.2.2.1 ≤ K.1 := hw.2.2.1
  obtain ⟨r, m1, m2, e1, e2, inv'⟩ := nc_INV_sim hJ.2.2.1 (nc_J_z hJ) inv (fun A wf => sim_there wf)
  obtain ⟨r1, d1, d2⟩ := Option.map_eq_some_iff.mp e1
  cases d2
  obtain ⟨r2, d3, d4⟩ := Option.map_eq_some_iff.mp e2
  cases d4
  refine lv_aload_n hx hb dL_law_581 rfl (lv_at hl 1 rfl) ?_
  refine nc_dallVi ⟨Nat.le_trans (Nat.le_add_right _ _) hcs.1, Nat.le_trans (Nat.le_add_right _ _) hcs.2⟩ cx hw lk_L_69 (c_X7_there l hJ.1 mi  r d1) (ci := 7) rfl (lNC_is hJ.1) rfl hl.1 rfl (Nat.le_of_ble_eq_true rfl) ⟨rfl, rfl, Nat.le_of_ble_eq_true rfl, Nat.le_of_ble_eq_true rfl⟩ dL_law_582 (fun H locs hw => ?_)
  refine lv_aload_n hx hb dL_law_585 rfl (lv_at hl 2 rfl) ?_
  refine nc_dallVi ⟨Nat.le_trans (Nat.le_add_right _ _) hcs.1, Nat.le_trans (Nat.le_add_right _ _) hcs.2⟩ cx hw lk_L_72 (c_X8_there l hJ.2.1 mi  r d3) (ci := 8) rfl (lModel_is hJ.2.1) rfl hl.1 rfl (Nat.le_of_ble_eq_true rfl) ⟨rfl, rfl, Nat.le_of_ble_eq_true rfl, Nat.le_of_ble_eq_true rfl⟩ dL_law_586 (fun H locs hw => ?_)
  refine lv_icmp_eq (tgt := 955) hx hb dL_law_589 (by decide) (fun _ => ?_) (fun hne => absurd rfl hne)
  exact kk K _ _ _ _ _ _ hJ inv' hw (Nat.le_add_right _ _) (Nat.le_add_right _ _) hl
set_option maxRecDepth 100000 in
set_option maxHeartbeats 4000000 in
theorem lc_14 {p : Program} {e : Env} {s : State} {m : MethodId} {below : List Frame} {meth : Method} {c : Code} {Q : State → Prop} (l : Launch) {b L : Nat} {xs : Nat → Int32} {G : nc_G} {K : nc_K} {mi : nc_Mem} {H : Heap} {locs : List Loc} {ls : Array Slot} {X M n cells slots : Nat} {x3 : Int32} (cx : nc_C p s m #[Value.ref b] c cL_law 4 RL G) (hX : va_X b L xs s s.heap) (hbl : b < s.heap.size) (hG : G.2.2.1 = s.heap.size ∧ G.2.2.2.1 = s.heap) (hJ : nc_J G K X M) (inv : nc_INV n X M (K.2.2 M 12) mi) (hn : n ≤ 1000) (hw : nc_W G K mi H locs) (hl : lv_has ls 4 [(0, .ref b), (1, .ref X), (2, .ref M), (3, .int x3)]) (in1 : vp_in (x3 + 1) L) (in2 : vp_in (x3 + 2) L) (in3 : vp_in (x3 + 3) L) (hcs : cells + 54 ≤ room_1.cells ∧ slots + 467 ≤ room_1.slots) (kk : nc_Kk p l e s m b below meth c Q G X M n x3 cells slots) : W p l e room_1 s m #[Value.ref b] below meth c H locs cells slots Q (F0 m 594 ls []) := by
  have hx := cx.1
  have hb := cx.2.1
  have hbA : ¬ (fun q : Nat => s.heap.size ≤ q) b := Nat.not_le.mpr hbl
  have hB : G.2.2.1 ≤ K.1 := hw.2.2.1
  obtain ⟨r, m1, m2, e1, e2, inv'⟩ := nc_INV_sim hJ.2.2.1 (nc_J_z hJ) inv (fun A wf => sim_soonest wf (xs (x3 + 1).toNatClampNeg))
  refine lv_aload_n hx hb dL_law_594 rfl (lv_at hl 1 rfl) ?_
  refine lv_aload_n hx hb dL_law_595 rfl (lv_at hl 0 rfl) ?_
  refine lv_iload_n hx hb dL_law_596 rfl (lv_at hl 3 rfl) ?_
  refine lv_iconst (v := 1) hx hb dL_law_597 (by decide) ?_
  refine lv_iadd hx hb dL_law_598 ?_
  refine va_sld hx hb hX hbl hbA (nc_S_of hG hw) in1 dL_law_599 ?_
  refine nc_dallVi ⟨Nat.le_trans (Nat.le_add_right _ _) hcs.1, Nat.le_trans (Nat.le_add_right _ _) hcs.2⟩ cx hw lk_L_73 (c_X7_soonest l hJ.1 mi (xs (x3 + 1).toNatClampNeg) (m1, r) e1) (ci := 7) rfl (lNC_is hJ.1) rfl hl.1 rfl (Nat.le_of_ble_eq_true rfl) ⟨rfl, rfl, Nat.le_of_ble_eq_true rfl, Nat.le_of_ble_eq_true rfl⟩ dL_law_600 (fun H locs hw => ?_)
  refine lv_aload_n hx hb dL_law_603 rfl (lv_at hl 2 rfl) ?_
  refine lv_aload_n hx hb dL_law_604 rfl (lv_at hl 0 rfl) ?_
  refine lv_iload_n hx hb dL_law_605 rfl (lv_at hl 3 rfl) ?_
  refine lv_iconst (v := 1) hx hb dL_law_606 (by decide) ?_
  refine lv_iadd hx hb dL_law_607 ?_
  refine va_sld hx hb hX hbl hbA (nc_S_of hG hw) in1 dL_law_608 ?_
  refine nc_dallVi ⟨Nat.le_trans (Nat.le_add_right _ _) hcs.1, Nat.le_trans (Nat.le_add_right _ _) hcs.2⟩ cx hw lk_L_76 (c_X8_soonest l hJ.2.1 m1 (xs (x3 + 1).toNatClampNeg) (m2, r) e2) (ci := 8) rfl (lModel_is hJ.2.1) rfl hl.1 rfl (Nat.le_of_ble_eq_true rfl) ⟨rfl, rfl, Nat.le_of_ble_eq_true rfl, Nat.le_of_ble_eq_true rfl⟩ dL_law_609 (fun H locs hw => ?_)
  refine lv_icmp_eq (tgt := 955) hx hb dL_law_612 (by decide) (fun _ => ?_) (fun hne => absurd rfl hne)
  exact kk K _ _ _ _ _ _ hJ inv' hw (Nat.le_add_right _ _) (Nat.le_add_right _ _) hl
set_option maxRecDepth 100000 in
set_option maxHeartbeats 4000000 in
theorem lc_15 {p : Program} {e : Env} {s : State} {m : MethodId} {below : List Frame} {meth : Method} {c : Code} {Q : State → Prop} (l : Launch) {b L : Nat} {xs : Nat → Int32} {G : nc_G} {K : nc_K} {mi : nc_Mem} {H : Heap} {locs : List Loc} {ls : Array Slot} {X M n cells slots : Nat} {x3 : Int32} (cx : nc_C p s m #[Value.ref b] c cL_law 4 RL G) (hX : va_X b L xs s s.heap) (hbl : b < s.heap.size) (hG : G.2.2.1 = s.heap.size ∧ G.2.2.2.1 = s.heap) (hJ : nc_J G K X M) (inv : nc_INV n X M (K.2.2 M 12) mi) (hn : n ≤ 1000) (hw : nc_W G K mi H locs) (hl : lv_has ls 4 [(0, .ref b), (1, .ref X), (2, .ref M), (3, .int x3)]) (in1 : vp_in (x3 + 1) L) (in2 : vp_in (x3 + 2) L) (in3 : vp_in (x3 + 3) L) (hcs : cells + 54 ≤ room_1.cells ∧ slots + 467 ≤ room_1.slots) (kk : nc_Kk p l e s m b below meth c Q G X M n x3 cells slots) : W p l e room_1 s m #[Value.ref b] below meth c H locs cells slots Q (F0 m 617 ls []) := by
  have hx := cx.1
  have hb := cx.2.1
  have hbA : ¬ (fun q : Nat => s.heap.size ≤ q) b := Nat.not_le.mpr hbl
  have hB : G.2.2.1 ≤ K.1 := hw.2.2.1
  obtain ⟨r, m1, m2, e1, e2, inv'⟩ := nc_INV_sim hJ.2.2.1 (nc_J_z hJ) inv (fun A wf => sim_over wf (xs (x3 + 1).toNatClampNeg) (xs (x3 + 2).toNatClampNeg))
  refine lv_aload_n hx hb dL_law_617 rfl (lv_at hl 1 rfl) ?_
  refine lv_aload_n hx hb dL_law_618 rfl (lv_at hl 0 rfl) ?_
  refine lv_iload_n hx hb dL_law_619 rfl (lv_at hl 3 rfl) ?_
  refine lv_iconst (v := 1) hx hb dL_law_620 (by decide) ?_
  refine lv_iadd hx hb dL_law_621 ?_
  refine va_sld hx hb hX hbl hbA (nc_S_of hG hw) in1 dL_law_622 ?_
  refine lv_aload_n hx hb dL_law_623 rfl (lv_at hl 0 rfl) ?_
  refine lv_iload_n hx hb dL_law_624 rfl (lv_at hl 3 rfl) ?_
  refine lv_iconst (v := 2) hx hb dL_law_625 (by decide) ?_
  refine lv_iadd hx hb dL_law_626 ?_
  refine va_sld hx hb hX hbl hbA (nc_S_of hG hw) in2 dL_law_627 ?_
  refine nc_dallVi ⟨Nat.le_trans (Nat.le_add_right _ _) hcs.1, Nat.le_trans (Nat.le_add_right _ _) hcs.2⟩ cx hw lk_L_77 (c_X7_over l hJ.1 mi (xs (x3 + 1).toNatClampNeg) (xs (x3 + 2).toNatClampNeg) (m1, r) e1) (ci := 7) rfl (lNC_is hJ.1) rfl hl.1 rfl (Nat.le_of_ble_eq_true rfl) ⟨rfl, rfl, Nat.le_of_ble_eq_true rfl, Nat.le_of_ble_eq_true rfl⟩ dL_law_628 (fun H locs hw => ?_)
  refine lv_aload_n hx hb dL_law_631 rfl (lv_at hl 2 rfl) ?_
  refine lv_aload_n hx hb dL_law_632 rfl (lv_at hl 0 rfl) ?_
  refine lv_iload_n hx hb dL_law_633 rfl (lv_at hl 3 rfl) ?_
  refine lv_iconst (v := 1) hx hb dL_law_634 (by decide) ?_
  refine lv_iadd hx hb dL_law_635 ?_
  refine va_sld hx hb hX hbl hbA (nc_S_of hG hw) in1 dL_law_636 ?_
  refine lv_aload_n hx hb dL_law_637 rfl (lv_at hl 0 rfl) ?_
  refine lv_iload_n hx hb dL_law_638 rfl (lv_at hl 3 rfl) ?_
  refine lv_iconst (v := 2) hx hb dL_law_639 (by decide) ?_
  refine lv_iadd hx hb dL_law_640 ?_
  refine va_sld hx hb hX hbl hbA (nc_S_of hG hw) in2 dL_law_641 ?_
  refine nc_dallVi ⟨Nat.le_trans (Nat.le_add_right _ _) hcs.1, Nat.le_trans (Nat.le_add_right _ _) hcs.2⟩ cx hw lk_L_80 (c_X8_over l hJ.2.1 m1 (xs (x3 + 1).toNatClampNeg) (xs (x3 + 2).toNatClampNeg) (m2, r) e2) (ci := 8) rfl (lModel_is hJ.2.1) rfl hl.1 rfl (Nat.le_of_ble_eq_true rfl) ⟨rfl, rfl, Nat.le_of_ble_eq_true rfl, Nat.le_of_ble_eq_true rfl⟩ dL_law_642 (fun H locs hw => ?_)
  refine lv_icmp_eq (tgt := 955) hx hb dL_law_645 (by decide) (fun _ => ?_) (fun hne => absurd rfl hne)
  exact kk K _ _ _ _ _ _ hJ inv' hw (Nat.le_add_right _ _) (Nat.le_add_right _ _) hl
set_option maxRecDepth 100000 in
set_option maxHeartbeats 4000000 in
theorem lc_16 {p : Program} {e : Env} {s : State} {m : MethodId} {below : List Frame} {meth : Method} {c : Code} {Q : State → Prop} (l : Launch) {b L : Nat} {xs : Nat → Int32} {G : nc_G} {K : nc_K} {mi : nc_Mem} {H : Heap} {locs : List Loc} {ls : Array Slot} {X M n cells slots : Nat} {x3 : Int32} (cx : nc_C p s m #[Value.ref b] c cL_law 4 RL G) (hX : va_X b L xs s s.heap) (hbl : b < s.heap.size) (hG : G.2.2.1 = s.heap.size ∧ G.2.2.2.1 = s.heap) (hJ : nc_J G K X M) (inv : nc_INV n X M (K.2.2 M 12) mi) (hn : n ≤ 1000) (hw : nc_W G K mi H locs) (hl : lv_has ls 4 [(0, .ref b), (1, .ref X), (2, .ref M), (3, .int x3)]) (in1 : vp_in (x3 + 1) L) (in2 : vp_in (x3 + 2) L) (in3 : vp_in (x3 + 3) L) (hcs : cells + 54 ≤ room_1.cells ∧ slots + 467 ≤ room_1.slots) (kk : nc_Kk p l e s m b below meth c Q G X M n x3 cells slots) : W p l e room_1 s m #[Value.ref b] below meth c H locs cells slots Q (F0 m 650 ls []) := by
  have hx := cx.1
  have hb := cx.2.1
  have hbA : ¬ (fun q : Nat => s.heap.size ≤ q) b := Nat.not_le.mpr hbl
  have hB : G.2.2.1 ≤ K.1 := hw.2.2.1
  obtain ⟨r, m1, m2, e1, e2, inv'⟩ := nc_INV_sim hJ.2.2.1 (nc_J_z hJ) inv (fun A wf => sim_bars wf (xs (x3 + 1).toNatClampNeg))
  refine lv_aload_n hx hb dL_law_650 rfl (lv_at hl 1 rfl) ?_
  refine lv_aload_n hx hb dL_law_651 rfl (lv_at hl 0 rfl) ?_
  refine lv_iload_n hx hb dL_law_652 rfl (lv_at hl 3 rfl) ?_
  refine lv_iconst (v := 1) hx hb dL_law_653 (by decide) ?_
  refine lv_iadd hx hb dL_law_654 ?_
  refine va_sld hx hb hX hbl hbA (nc_S_of hG hw) in1 dL_law_655 ?_
  refine nc_dallVi ⟨Nat.le_trans (Nat.le_add_right _ _) hcs.1, Nat.le_trans (Nat.le_add_right _ _) hcs.2⟩ cx hw lk_L_81 (c_X7_bars l hJ.1 mi (xs (x3 + 1).toNatClampNeg) (m1, r) e1) (ci := 7) rfl (lNC_is hJ.1) rfl hl.1 rfl (Nat.le_of_ble_eq_true rfl) ⟨rfl, rfl, Nat.le_of_ble_eq_true rfl, Nat.le_of_ble_eq_true rfl⟩ dL_law_656 (fun H locs hw => ?_)
  refine lv_aload_n hx hb dL_law_659 rfl (lv_at hl 2 rfl) ?_
  refine lv_aload_n hx hb dL_law_660 rfl (lv_at hl 0 rfl) ?_
  refine lv_iload_n hx hb dL_law_661 rfl (lv_at hl 3 rfl) ?_
  refine lv_iconst (v := 1) hx hb dL_law_662 (by decide) ?_
  refine lv_iadd hx hb dL_law_663 ?_
  refine va_sld hx hb hX hbl hbA (nc_S_of hG hw) in1 dL_law_664 ?_
  refine nc_dallVi ⟨Nat.le_trans (Nat.le_add_right _ _) hcs.1, Nat.le_trans (Nat.le_add_right _ _) hcs.2⟩ cx hw lk_L_84 (c_X8_bars l hJ.2.1 m1 (xs (x3 + 1).toNatClampNeg) (m2, r) e2) (ci := 8) rfl (lModel_is hJ.2.1) rfl hl.1 rfl (Nat.le_of_ble_eq_true rfl) ⟨rfl, rfl, Nat.le_of_ble_eq_true rfl, Nat.le_of_ble_eq_true rfl⟩ dL_law_665 (fun H locs hw => ?_)
  refine lv_icmp_eq (tgt := 955) hx hb dL_law_668 (by decide) (fun _ => ?_) (fun hne => absurd rfl hne)
  exact kk K _ _ _ _ _ _ hJ inv' hw (Nat.le_add_right _ _) (Nat.le_add_right _ _) hl
set_option maxRecDepth 100000 in
set_option maxHeartbeats 4000000 in
theorem lc_17 {p : Program} {e : Env} {s : State} {m : MethodId} {below : List Frame} {meth : Method} {c : Code} {Q : State → Prop} (l : Launch) {b L : Nat} {xs : Nat → Int32} {G : nc_G} {K : nc_K} {mi : nc_Mem} {H : Heap} {locs : List Loc} {ls : Array Slot} {X M n cells slots : Nat} {x3 : Int32} (cx : nc_C p s m #[Value.ref b] c cL_law 4 RL G) (hX : va_X b L xs s s.heap) (hbl : b < s.heap.size) (hG : G.2.2.1 = s.heap.size ∧ G.2.2.2.1 = s.heap) (hJ : nc_J G K X M) (inv : nc_INV n X M (K.2.2 M 12) mi) (hn : n ≤ 1000) (hw : nc_W G K mi H locs) (hl : lv_has ls 4 [(0, .ref b), (1, .ref X), (2, .ref M), (3, .int x3)]) (in1 : vp_in (x3 + 1) L) (in2 : vp_in (x3 + 2) L) (in3 : vp_in (x3 + 3) L) (hcs : cells + 54 ≤ room_1.cells ∧ slots + 467 ≤ room_1.slots) (kk : nc_Kk p l e s m b below meth c Q G X M n x3 cells slots) : W p l e room_1 s m #[Value.ref b] below meth c H locs cells slots Q (F0 m 673 ls []) := by
  have hx := cx.1
  have hb := cx.2.1
  have hbA : ¬ (fun q : Nat => s.heap.size ≤ q) b := Nat.not_le.mpr hbl
  have hB : G.2.2.1 ≤ K.1 := hw.2.2.1
  obtain ⟨r, m1, m2, e1, e2, inv'⟩ := nc_INV_sim hJ.2.2.1 (nc_J_z hJ) inv (fun A wf => sim_never wf)
  refine lv_aload_n hx hb dL_law_673 rfl (lv_at hl 1 rfl) ?_
  refine nc_dallVi ⟨Nat.le_trans (Nat.le_add_right _ _) hcs.1, Nat.le_trans (Nat.le_add_right _ _) hcs.2⟩ cx hw lk_L_85 (c_X7_never l hJ.1 mi  (m1, r) e1) (ci := 7) rfl (lNC_is hJ.1) rfl hl.1 rfl (Nat.le_of_ble_eq_true rfl) ⟨rfl, rfl, Nat.le_of_ble_eq_true rfl, Nat.le_of_ble_eq_true rfl⟩ dL_law_674 (fun H locs hw => ?_)
  refine lv_aload_n hx hb dL_law_677 rfl (lv_at hl 2 rfl) ?_
  refine nc_dallVi ⟨Nat.le_trans (Nat.le_add_right _ _) hcs.1, Nat.le_trans (Nat.le_add_right _ _) hcs.2⟩ cx hw lk_L_88 (c_X8_never l hJ.2.1 m1  (m2, r) e2) (ci := 8) rfl (lModel_is hJ.2.1) rfl hl.1 rfl (Nat.le_of_ble_eq_true rfl) ⟨rfl, rfl, Nat.le_of_ble_eq_true rfl, Nat.le_of_ble_eq_true rfl⟩ dL_law_678 (fun H locs hw => ?_)
  refine lv_icmp_eq (tgt := 955) hx hb dL_law_681 (by decide) (fun _ => ?_) (fun hne => absurd rfl hne)
  exact kk K _ _ _ _ _ _ hJ inv' hw (Nat.le_add_right _ _) (Nat.le_add_right _ _) hl
set_option maxRecDepth 100000 in
set_option maxHeartbeats 4000000 in
theorem lc_18 {p : Program} {e : Env} {s : State} {m : MethodId} {below : List Frame} {meth : Method} {c : Code} {Q : State → Prop} (l : Launch) {b L : Nat} {xs : Nat → Int32} {G : nc_G} {K : nc_K} {mi : nc_Mem} {H : Heap} {locs : List Loc} {ls : Array Slot} {X M n cells slots : Nat} {x3 : Int32} (cx : nc_C p s m #[Value.ref b] c cL_law 4 RL G) (hX : va_X b L xs s s.heap) (hbl : b < s.heap.size) (hG : G.2.2.1 = s.heap.size ∧ G.2.2.2.1 = s.heap) (hJ : nc_J G K X M) (inv : nc_INV n X M (K.2.2 M 12) mi) (hn : n ≤ 1000) (hw : nc_W G K mi H locs) (hl : lv_has ls 4 [(0, .ref b), (1, .ref X), (2, .ref M), (3, .int x3)]) (in1 : vp_in (x3 + 1) L) (in2 : vp_in (x3 + 2) L) (in3 : vp_in (x3 + 3) L) (hcs : cells + 54 ≤ room_1.cells ∧ slots + 467 ≤ room_1.slots) (kk : nc_Kk p l e s m b below meth c Q G X M n x3 cells slots) : W p l e room_1 s m #[Value.ref b] below meth c H locs cells slots Q (F0 m 686 ls []) := by
  have hx := cx.1
  have hb := cx.2.1
  have hbA : ¬ (fun q : Nat => s.heap.size ≤ q) b := Nat.not_le.mpr hbl
  have hB : G.2.2.1 ≤ K.1 := hw.2.2.1
  obtain ⟨r, m1, m2, e1, e2, inv'⟩ := nc_INV_sim hJ.2.2.1 (nc_J_z hJ) inv (fun A wf => sim_why wf (xs (x3 + 1).toNatClampNeg))
  refine lv_aload_n hx hb dL_law_686 rfl (lv_at hl 1 rfl) ?_
  refine lv_aload_n hx hb dL_law_687 rfl (lv_at hl 0 rfl) ?_
  refine lv_iload_n hx hb dL_law_688 rfl (lv_at hl 3 rfl) ?_
  refine lv_iconst (v := 1) hx hb dL_law_689 (by decide) ?_
  refine lv_iadd hx hb dL_law_690 ?_
  refine va_sld hx hb hX hbl hbA (nc_S_of hG hw) in1 dL_law_691 ?_
  refine nc_dallVi ⟨Nat.le_trans (Nat.le_add_right _ _) hcs.1, Nat.le_trans (Nat.le_add_right _ _) hcs.2⟩ cx hw lk_L_89 (c_X7_why l hJ.1 mi (xs (x3 + 1).toNatClampNeg) (m1, r) e1) (ci := 7) rfl (lNC_is hJ.1) rfl hl.1 rfl (Nat.le_of_ble_eq_true rfl) ⟨rfl, rfl, Nat.le_of_ble_eq_true rfl, Nat.le_of_ble_eq_true rfl⟩ dL_law_692 (fun H locs hw => ?_)
  refine lv_aload_n hx hb dL_law_695 rfl (lv_at hl 2 rfl) ?_
  refine lv_aload_n hx hb dL_law_696 rfl (lv_at hl 0 rfl) ?_
  refine lv_iload_n hx hb dL_law_697 rfl (lv_at hl 3 rfl) ?_
  refine lv_iconst (v := 1) hx hb dL_law_698 (by decide) ?_
  refine lv_iadd hx hb dL_law_699 ?_
  refine va_sld hx hb hX hbl hbA (nc_S_of hG hw) in1 dL_law_700 ?_
  refine nc_dallVi ⟨Nat.le_trans (Nat.le_add_right _ _) hcs.1, Nat.le_trans (Nat.le_add_right _ _) hcs.2⟩ cx hw lk_L_92 (c_X8_why l hJ.2.1 m1 (xs (x3 + 1).toNatClampNeg) (m2, r) e2) (ci := 8) rfl (lModel_is hJ.2.1) rfl hl.1 rfl (Nat.le_of_ble_eq_true rfl) ⟨rfl, rfl, Nat.le_of_ble_eq_true rfl, Nat.le_of_ble_eq_true rfl⟩ dL_law_701 (fun H locs hw => ?_)
  refine lv_icmp_eq (tgt := 955) hx hb dL_law_704 (by decide) (fun _ => ?_) (fun hne => absurd rfl hne)
  exact kk K _ _ _ _ _ _ hJ inv' hw (Nat.le_add_right _ _) (Nat.le_add_right _ _) hl
set_option maxRecDepth 100000 in
set_option maxHeartbeats 4000000 in
theorem lc_19 {p : Program} {e : Env} {s : State} {m : MethodId} {below : List Frame} {meth : Method} {c : Code} {Q : State → Prop} (l : Launch) {b L : Nat} {xs : Nat → Int32} {G : nc_G} {K : nc_K} {mi : nc_Mem} {H : Heap} {locs : List Loc} {ls : Array Slot} {X M n cells slots : Nat} {x3 : Int32} (cx : nc_C p s m #[Value.ref b] c cL_law 4 RL G) (hX : va_X b L xs s s.heap) (hbl : b < s.heap.size) (hG : G.2.2.1 = s.heap.size ∧ G.2.2.2.1 = s.heap) (hJ : nc_J G K X M) (inv : nc_INV n X M (K.2.2 M 12) mi) (hn : n ≤ 1000) (hw : nc_W G K mi H locs) (hl : lv_has ls 4 [(0, .ref b), (1, .ref X), (2, .ref M), (3, .int x3)]) (in1 : vp_in (x3 + 1) L) (in2 : vp_in (x3 + 2) L) (in3 : vp_in (x3 + 3) L) (hcs : cells + 54 ≤ room_1.cells ∧ slots + 467 ≤ room_1.slots) (kk : nc_Kk p l e s m b below meth c Q G X M n x3 cells slots) : W p l e room_1 s m #[Value.ref b] below meth c H locs cells slots Q (F0 m 709 ls []) := by
  have hx := cx.1
  have hb := cx.2.1
  have hbA : ¬ (fun q : Nat => s.heap.size ≤ q) b := Nat.not_le.mpr hbl
  have hB : G.2.2.1 ≤ K.1 := hw.2.2.1
  obtain ⟨r, m1, m2, e1, e2, inv'⟩ := nc_INV_sim hJ.2.2.1 (nc_J_z hJ) inv (fun A wf => sim_round wf (xs (x3 + 1).toNatClampNeg) (xs (x3 + 2).toNatClampNeg) (xs (x3 + 3).toNatClampNeg))
  refine lv_aload_n hx hb dL_law_709 rfl (lv_at hl 1 rfl) ?_
  refine lv_aload_n hx hb dL_law_710 rfl (lv_at hl 0 rfl) ?_
  refine lv_iload_n hx hb dL_law_711 rfl (lv_at hl 3 rfl) ?_
  refine lv_iconst (v := 1) hx hb dL_law_712 (by decide) ?_
  refine lv_iadd hx hb dL_law_713 ?_
  refine va_sld hx hb hX hbl hbA (nc_S_of hG hw) in1 dL_law_714 ?_
  refine lv_aload_n hx hb dL_law_715 rfl (lv_at hl 0 rfl) ?_
  refine lv_iload_n hx hb dL_law_716 rfl (lv_at hl 3 rfl) ?_
  refine lv_iconst (v := 2) hx hb dL_law_717 (by decide) ?_
  refine lv_iadd hx hb dL_law_718 ?_
  refine va_sld hx hb hX hbl hbA (nc_S_of hG hw) in2 dL_law_719 ?_
  refine lv_aload_n hx hb dL_law_720 rfl (lv_at hl 0 rfl) ?_
  refine lv_iload_n hx hb dL_law_721 rfl (lv_at hl 3 rfl) ?_
  refine lv_iconst (v := 3) hx hb dL_law_722 (by decide) ?_
  refine lv_iadd hx hb dL_law_723 ?_
  refine va_sld hx hb hX hbl hbA (nc_S_of hG hw) in3 dL_law_724 ?_
  refine nc_dallVi ⟨Nat.le_trans (Nat.le_add_right _ _) hcs.1, Nat.le_trans (Nat.le_add_right _ _) hcs.2⟩ cx hw lk_L_93 (c_X7_round l hJ.1 mi (xs (x3 + 1).toNatClampNeg) (xs (x3 + 2).toNatClampNeg) (xs (x3 + 3).toNatClampNeg) (m1, r) e1) (ci := 7) rfl (lNC_is hJ.1) rfl hl.1 rfl (Nat.le_of_ble_eq_true rfl) ⟨rfl, rfl, Nat.le_of_ble_eq_true rfl, Nat.le_of_ble_eq_true rfl⟩ dL_law_725 (fun H locs hw => ?_)
  refine lv_aload_n hx hb dL_law_728 rfl (lv_at hl 2 rfl) ?_
  refine lv_aload_n hx hb dL_law_729 rfl (lv_at hl 0 rfl) ?_
  refine lv_iload_n hx hb dL_law_730 rfl (lv_at hl 3 rfl) ?_
  refine lv_iconst (v := 1) hx hb dL_law_731 (by decide) ?_
  refine lv_iadd hx hb dL_law_732 ?_
  refine va_sld hx hb hX hbl hbA (nc_S_of hG hw) in1 dL_law_733 ?_
  refine lv_aload_n hx hb dL_law_734 rfl (lv_at hl 0 rfl) ?_
  refine lv_iload_n hx hb dL_law_735 rfl (lv_at hl 3 rfl) ?_
  refine lv_iconst (v := 2) hx hb dL_law_736 (by decide) ?_
  refine lv_iadd hx hb dL_law_737 ?_
  refine va_sld hx hb hX hbl hbA (nc_S_of hG hw) in2 dL_law_738 ?_
  refine lv_aload_n hx hb dL_law_739 rfl (lv_at hl 0 rfl) ?_
  refine lv_iload_n hx hb dL_law_740 rfl (lv_at hl 3 rfl) ?_
  refine lv_iconst (v := 3) hx hb dL_law_741 (by decide) ?_
  refine lv_iadd hx hb dL_law_742 ?_
  refine va_sld hx hb hX hbl hbA (nc_S_of hG hw) in3 dL_law_743 ?_
  refine nc_dallVi ⟨Nat.le_trans (Nat.le_add_right _ _) hcs.1, Nat.le_trans (Nat.le_add_right _ _) hcs.2⟩ cx hw lk_L_96 (c_X8_round l hJ.2.1 m1 (xs (x3 + 1).toNatClampNeg) (xs (x3 + 2).toNatClampNeg) (xs (x3 + 3).toNatClampNeg) (m2, r) e2) (ci := 8) rfl (lModel_is hJ.2.1) rfl hl.1 rfl (Nat.le_of_ble_eq_true rfl) ⟨rfl, rfl, Nat.le_of_ble_eq_true rfl, Nat.le_of_ble_eq_true rfl⟩ dL_law_744 (fun H locs hw => ?_)
  refine lv_icmp_eq (tgt := 955) hx hb dL_law_747 (by decide) (fun _ => ?_) (fun hne => absurd rfl hne)
  exact kk K _ _ _ _ _ _ hJ inv' hw (Nat.le_add_right _ _) (Nat.le_add_right _ _) hl
set_option maxRecDepth 100000 in
set_option maxHeartbeats 4000000 in
theorem lc_20 {p : Program} {e : Env} {s : State} {m : MethodId} {below : List Frame} {meth : Method} {c : Code} {Q : State → Prop} (l : Launch) {b L : Nat} {xs : Nat → Int32} {G : nc_G} {K : nc_K} {mi : nc_Mem} {H : Heap} {locs : List Loc} {ls : Array Slot} {X M n cells slots : Nat} {x3 : Int32} (cx : nc_C p s m #[Value.ref b] c cL_law 4 RL G) (hX : va_X b L xs s s.heap) (hbl : b < s.heap.size) (hG : G.2.2.1 = s.heap.size ∧ G.2.2.2.1 = s.heap) (hJ : nc_J G K X M) (inv : nc_INV n X M (K.2.2 M 12) mi) (hn : n ≤ 1000) (hw : nc_W G K mi H locs) (hl : lv_has ls 4 [(0, .ref b), (1, .ref X), (2, .ref M), (3, .int x3)]) (in1 : vp_in (x3 + 1) L) (in2 : vp_in (x3 + 2) L) (in3 : vp_in (x3 + 3) L) (hcs : cells + 54 ≤ room_1.cells ∧ slots + 467 ≤ room_1.slots) (kk : nc_Kk p l e s m b below meth c Q G X M n x3 cells slots) : W p l e room_1 s m #[Value.ref b] below meth c H locs cells slots Q (F0 m 752 ls []) := by
  have hx := cx.1
  have hb := cx.2.1
  have hbA : ¬ (fun q : Nat => s.heap.size ≤ q) b := Nat.not_le.mpr hbl
  have hB : G.2.2.1 ≤ K.1 := hw.2.2.1
  obtain ⟨r, m1, m2, e1, e2, inv'⟩ := nc_INV_sim hJ.2.2.1 (nc_J_z hJ) inv (fun A wf => sim_each wf (xs (x3 + 1).toNatClampNeg))
  refine lv_aload_n hx hb dL_law_752 rfl (lv_at hl 1 rfl) ?_
  refine lv_aload_n hx hb dL_law_753 rfl (lv_at hl 0 rfl) ?_
  refine lv_iload_n hx hb dL_law_754 rfl (lv_at hl 3 rfl) ?_
  refine lv_iconst (v := 1) hx hb dL_law_755 (by decide) ?_
  refine lv_iadd hx hb dL_law_756 ?_
  refine va_sld hx hb hX hbl hbA (nc_S_of hG hw) in1 dL_law_757 ?_
  refine nc_dallVi ⟨Nat.le_trans (Nat.le_add_right _ _) hcs.1, Nat.le_trans (Nat.le_add_right _ _) hcs.2⟩ cx hw lk_L_97 (c_X7_each l hJ.1 mi (xs (x3 + 1).toNatClampNeg) (m1, r) e1) (ci := 7) rfl (lNC_is hJ.1) rfl hl.1 rfl (Nat.le_of_ble_eq_true rfl) ⟨rfl, rfl, Nat.le_of_ble_eq_true rfl, Nat.le_of_ble_eq_true rfl⟩ dL_law_758 (fun H locs hw => ?_)
  refine lv_aload_n hx hb dL_law_761 rfl (lv_at hl 2 rfl) ?_
  refine lv_aload_n hx hb dL_law_762 rfl (lv_at hl 0 rfl) ?_
  refine lv_iload_n hx hb dL_law_763 rfl (lv_at hl 3 rfl) ?_
  refine lv_iconst (v := 1) hx hb dL_law_764 (by decide) ?_
  refine lv_iadd hx hb dL_law_765 ?_
  refine va_sld hx hb hX hbl hbA (nc_S_of hG hw) in1 dL_law_766 ?_
  refine nc_dallVi ⟨Nat.le_trans (Nat.le_add_right _ _) hcs.1, Nat.le_trans (Nat.le_add_right _ _) hcs.2⟩ cx hw lk_L_100 (c_X8_each l hJ.2.1 m1 (xs (x3 + 1).toNatClampNeg) (m2, r) e2) (ci := 8) rfl (lModel_is hJ.2.1) rfl hl.1 rfl (Nat.le_of_ble_eq_true rfl) ⟨rfl, rfl, Nat.le_of_ble_eq_true rfl, Nat.le_of_ble_eq_true rfl⟩ dL_law_767 (fun H locs hw => ?_)
  refine lv_icmp_eq (tgt := 955) hx hb dL_law_770 (by decide) (fun _ => ?_) (fun hne => absurd rfl hne)
  exact kk K _ _ _ _ _ _ hJ inv' hw (Nat.le_add_right _ _) (Nat.le_add_right _ _) hl
set_option maxRecDepth 100000 in
set_option maxHeartbeats 4000000 in
theorem lc_21 {p : Program} {e : Env} {s : State} {m : MethodId} {below : List Frame} {meth : Method} {c : Code} {Q : State → Prop} (l : Launch) {b L : Nat} {xs : Nat → Int32} {G : nc_G} {K : nc_K} {mi : nc_Mem} {H : Heap} {locs : List Loc} {ls : Array Slot} {X M n cells slots : Nat} {x3 : Int32} (cx : nc_C p s m #[Value.ref b] c cL_law 4 RL G) (hX : va_X b L xs s s.heap) (hbl : b < s.heap.size) (hG : G.2.2.1 = s.heap.size ∧ G.2.2.2.1 = s.heap) (hJ : nc_J G K X M) (inv : nc_INV n X M (K.2.2 M 12) mi) (hn : n ≤ 1000) (hw : nc_W G K mi H locs) (hl : lv_has ls 4 [(0, .ref b), (1, .ref X), (2, .ref M), (3, .int x3)]) (in1 : vp_in (x3 + 1) L) (in2 : vp_in (x3 + 2) L) (in3 : vp_in (x3 + 3) L) (hcs : cells + 54 ≤ room_1.cells ∧ slots + 467 ≤ room_1.slots) (kk : nc_Kk p l e s m b below meth c Q G X M n x3 cells slots) : W p l e room_1 s m #[Value.ref b] below meth c H locs cells slots Q (F0 m 775 ls []) := by
  have hx := cx.1
  have hb := cx.2.1
  have hbA : ¬ (fun q : Nat => s.heap.size ≤ q) b := Nat.not_le.mpr hbl
  have hB : G.2.2.1 ≤ K.1 := hw.2.2.1
  obtain ⟨r, m1, m2, e1, e2, inv'⟩ := nc_INV_sim hJ.2.2.1 (nc_J_z hJ) inv (fun A wf => sim_pay wf (xs (x3 + 1).toNatClampNeg))
  refine lv_aload_n hx hb dL_law_775 rfl (lv_at hl 1 rfl) ?_
  refine lv_aload_n hx hb dL_law_776 rfl (lv_at hl 0 rfl) ?_
  refine lv_iload_n hx hb dL_law_777 rfl (lv_at hl 3 rfl) ?_
  refine lv_iconst (v := 1) hx hb dL_law_778 (by decide) ?_
  refine lv_iadd hx hb dL_law_779 ?_
  refine va_sld hx hb hX hbl hbA (nc_S_of hG hw) in1 dL_law_780 ?_
  refine nc_dallVi ⟨Nat.le_trans (Nat.le_add_right _ _) hcs.1, Nat.le_trans (Nat.le_add_right _ _) hcs.2⟩ cx hw lk_L_101 (c_X7_pay l hJ.1 mi (xs (x3 + 1).toNatClampNeg) (m1, r) e1) (ci := 7) rfl (lNC_is hJ.1) rfl hl.1 rfl (Nat.le_of_ble_eq_true rfl) ⟨rfl, rfl, Nat.le_of_ble_eq_true rfl, Nat.le_of_ble_eq_true rfl⟩ dL_law_781 (fun H locs hw => ?_)
  refine lv_aload_n hx hb dL_law_784 rfl (lv_at hl 2 rfl) ?_
  refine lv_aload_n hx hb dL_law_785 rfl (lv_at hl 0 rfl) ?_
  refine lv_iload_n hx hb dL_law_786 rfl (lv_at hl 3 rfl) ?_
  refine lv_iconst (v := 1) hx hb dL_law_787 (by decide) ?_
  refine lv_iadd hx hb dL_law_788 ?_
  refine va_sld hx hb hX hbl hbA (nc_S_of hG hw) in1 dL_law_789 ?_
  refine nc_dallVi ⟨Nat.le_trans (Nat.le_add_right _ _) hcs.1, Nat.le_trans (Nat.le_add_right _ _) hcs.2⟩ cx hw lk_L_104 (c_X8_pay l hJ.2.1 m1 (xs (x3 + 1).toNatClampNeg) (m2, r) e2) (ci := 8) rfl (lModel_is hJ.2.1) rfl hl.1 rfl (Nat.le_of_ble_eq_true rfl) ⟨rfl, rfl, Nat.le_of_ble_eq_true rfl, Nat.le_of_ble_eq_true rfl⟩ dL_law_790 (fun H locs hw => ?_)
  refine lv_icmp_eq (tgt := 955) hx hb dL_law_793 (by decide) (fun _ => ?_) (fun hne => absurd rfl hne)
  exact kk K _ _ _ _ _ _ hJ inv' hw (Nat.le_add_right _ _) (Nat.le_add_right _ _) hl
set_option maxRecDepth 100000 in
set_option maxHeartbeats 4000000 in
theorem lc_22 {p : Program} {e : Env} {s : State} {m : MethodId} {below : List Frame} {meth : Method} {c : Code} {Q : State → Prop} (l : Launch) {b L : Nat} {xs : Nat → Int32} {G : nc_G} {K : nc_K} {mi : nc_Mem} {H : Heap} {locs : List Loc} {ls : Array Slot} {X M n cells slots : Nat} {x3 : Int32} (cx : nc_C p s m #[Value.ref b] c cL_law 4 RL G) (hX : va_X b L xs s s.heap) (hbl : b < s.heap.size) (hG : G.2.2.1 = s.heap.size ∧ G.2.2.2.1 = s.heap) (hJ : nc_J G K X M) (inv : nc_INV n X M (K.2.2 M 12) mi) (hn : n ≤ 1000) (hw : nc_W G K mi H locs) (hl : lv_has ls 4 [(0, .ref b), (1, .ref X), (2, .ref M), (3, .int x3)]) (in1 : vp_in (x3 + 1) L) (in2 : vp_in (x3 + 2) L) (in3 : vp_in (x3 + 3) L) (hcs : cells + 54 ≤ room_1.cells ∧ slots + 467 ≤ room_1.slots) (kk : nc_Kk p l e s m b below meth c Q G X M n x3 cells slots) : W p l e room_1 s m #[Value.ref b] below meth c H locs cells slots Q (F0 m 798 ls []) := by
  have hx := cx.1
  have hb := cx.2.1
  have hbA : ¬ (fun q : Nat => s.heap.size ≤ q) b := Nat.not_le.mpr hbl
  have hB : G.2.2.1 ≤ K.1 := hw.2.2.1
  obtain ⟨r, m1, m2, e1, e2, inv'⟩ := nc_INV_sim hJ.2.2.1 (nc_J_z hJ) inv (fun A wf => sim_fewest wf)
  refine lv_aload_n hx hb dL_law_798 rfl (lv_at hl 1 rfl) ?_
  refine nc_dallVi ⟨Nat.le_trans (Nat.le_add_right _ _) hcs.1, Nat.le_trans (Nat.le_add_right _ _) hcs.2⟩ cx hw lk_L_105 (c_X7_fewest l hJ.1 mi  (m1, r) e1) (ci := 7) rfl (lNC_is hJ.1) rfl hl.1 rfl (Nat.le_of_ble_eq_true rfl) ⟨rfl, rfl, Nat.le_of_ble_eq_true rfl, Nat.le_of_ble_eq_true rfl⟩ dL_law_799 (fun H locs hw => ?_)
  refine lv_aload_n hx hb dL_law_802 rfl (lv_at hl 2 rfl) ?_
  refine nc_dallVi ⟨Nat.le_trans (Nat.le_add_right _ _) hcs.1, Nat.le_trans (Nat.le_add_right _ _) hcs.2⟩ cx hw lk_L_108 (c_X8_fewest l hJ.2.1 m1  (m2, r) e2) (ci := 8) rfl (lModel_is hJ.2.1) rfl hl.1 rfl (Nat.le_of_ble_eq_true rfl) ⟨rfl, rfl, Nat.le_of_ble_eq_true rfl, Nat.le_of_ble_eq_true rfl⟩ dL_law_803 (fun H locs hw => ?_)
  refine lv_icmp_eq (tgt := 955) hx hb dL_law_806 (by decide) (fun _ => ?_) (fun hne => absurd rfl hne)
  exact kk K _ _ _ _ _ _ hJ inv' hw (Nat.le_add_right _ _) (Nat.le_add_right _ _) hl
set_option maxRecDepth 100000 in
set_option maxHeartbeats 4000000 in
theorem lc_23 {p : Program} {e : Env} {s : State} {m : MethodId} {below : List Frame} {meth : Method} {c : Code} {Q : State → Prop} (l : Launch) {b L : Nat} {xs : Nat → Int32} {G : nc_G} {K : nc_K} {mi : nc_Mem} {H : Heap} {locs : List Loc} {ls : Array Slot} {X M n cells slots : Nat} {x3 : Int32} (cx : nc_C p s m #[Value.ref b] c cL_law 4 RL G) (hX : va_X b L xs s s.heap) (hbl : b < s.heap.size) (hG : G.2.2.1 = s.heap.size ∧ G.2.2.2.1 = s.heap) (hJ : nc_J G K X M) (inv : nc_INV n X M (K.2.2 M 12) mi) (hn : n ≤ 1000) (hw : nc_W G K mi H locs) (hl : lv_has ls 4 [(0, .ref b), (1, .ref X), (2, .ref M), (3, .int x3)]) (in1 : vp_in (x3 + 1) L) (in2 : vp_in (x3 + 2) L) (in3 : vp_in (x3 + 3) L) (hcs : cells + 54 ≤ room_1.cells ∧ slots + 467 ≤ room_1.slots) (kk : nc_Kk p l e s m b below meth c Q G X M n x3 cells slots) : W p l e room_1 s m #[Value.ref b] below meth c H locs cells slots Q (F0 m 811 ls []) := by
  have hx := cx.1
  have hb := cx.2.1
  have hbA : ¬ (fun q : Nat => s.heap.size ≤ q) b := Nat.not_le.mpr hbl
  have hB : G.2.2.1 ≤ K.1 := hw.2.2.1
  obtain ⟨r, m1, m2, e1, e2, inv'⟩ := nc_INV_sim hJ.2.2.1 (nc_J_z hJ) inv (fun A wf => sim_beside wf)
  refine lv_aload_n hx hb dL_law_811 rfl (lv_at hl 1 rfl) ?_
  refine nc_dallVi ⟨Nat.le_trans (Nat.le_add_right _ _) hcs.1, Nat.le_trans (Nat.le_add_right _ _) hcs.2⟩ cx hw lk_L_109 (c_X7_beside l hJ.1 mi  (m1, r) e1) (ci := 7) rfl (lNC_is hJ.1) rfl hl.1 rfl (Nat.le_of_ble_eq_true rfl) ⟨rfl, rfl, Nat.le_of_ble_eq_true rfl, Nat.le_of_ble_eq_true rfl⟩ dL_law_812 (fun H locs hw => ?_)
  refine lv_aload_n hx hb dL_law_815 rfl (lv_at hl 2 rfl) ?_
  refine nc_dallVi ⟨Nat.le_trans (Nat.le_add_right _ _) hcs.1, Nat.le_trans (Nat.le_add_right _ _) hcs.2⟩ cx hw lk_L_112 (c_X8_beside l hJ.2.1 m1  (m2, r) e2) (ci := 8) rfl (lModel_is hJ.2.1) rfl hl.1 rfl (Nat.le_of_ble_eq_true rfl) ⟨rfl, rfl, Nat.le_of_ble_eq_true rfl, Nat.le_of_ble_eq_true rfl⟩ dL_law_816 (fun H locs hw => ?_)
  refine lv_icmp_eq (tgt := 955) hx hb dL_law_819 (by decide) (fun _ => ?_) (fun hne => absurd rfl hne)
  exact kk K _ _ _ _ _ _ hJ inv' hw (Nat.le_add_right _ _) (Nat.le_add_right _ _) hl
set_option maxRecDepth 100000 in
set_option maxHeartbeats 4000000 in
theorem lc_24 {p : Program} {e : Env} {s : State} {m : MethodId} {below : List Frame} {meth : Method} {c : Code} {Q : State → Prop} (l : Launch) {b L : Nat} {xs : Nat → Int32} {G : nc_G} {K : nc_K} {mi : nc_Mem} {H : Heap} {locs : List Loc} {ls : Array Slot} {X M n cells slots : Nat} {x3 : Int32} (cx : nc_C p s m #[Value.ref b] c cL_law 4 RL G) (hX : va_X b L xs s s.heap) (hbl : b < s.heap.size) (hG : G.2.2.1 = s.heap.size ∧ G.2.2.2.1 = s.heap) (hJ : nc_J G K X M) (inv : nc_INV n X M (K.2.2 M 12) mi) (hn : n ≤ 1000) (hw : nc_W G K mi H locs) (hl : lv_has ls 4 [(0, .ref b), (1, .ref X), (2, .ref M), (3, .int x3)]) (in1 : vp_in (x3 + 1) L) (in2 : vp_in (x3 + 2) L) (in3 : vp_in (x3 + 3) L) (hcs : cells + 54 ≤ room_1.cells ∧ slots + 467 ≤ room_1.slots) (kk : nc_Kk p l e s m b below meth c Q G X M n x3 cells slots) : W p l e room_1 s m #[Value.ref b] below meth c H locs cells slots Q (F0 m 824 ls []) := by
  have hx := cx.1
  have hb := cx.2.1
  have hbA : ¬ (fun q : Nat => s.heap.size ≤ q) b := Nat.not_le.mpr hbl
  have hB : G.2.2.1 ≤ K.1 := hw.2.2.1
  obtain ⟨r, m1, m2, e1, e2, inv'⟩ := nc_INV_sim hJ.2.2.1 (nc_J_z hJ) inv (fun A wf => sim_houses wf)
  refine lv_aload_n hx hb dL_law_824 rfl (lv_at hl 1 rfl) ?_
  refine nc_dallVi ⟨Nat.le_trans (Nat.le_add_right _ _) hcs.1, Nat.le_trans (Nat.le_add_right _ _) hcs.2⟩ cx hw lk_L_113 (c_X7_houses l hJ.1 mi  (m1, r) e1) (ci := 7) rfl (lNC_is hJ.1) rfl hl.1 rfl (Nat.le_of_ble_eq_true rfl) ⟨rfl, rfl, Nat.le_of_ble_eq_true rfl, Nat.le_of_ble_eq_true rfl⟩ dL_law_825 (fun H locs hw => ?_)
  refine lv_aload_n hx hb dL_law_828 rfl (lv_at hl 2 rfl) ?_
  refine nc_dallVi ⟨Nat.le_trans (Nat.le_add_right _ _) hcs.1, Nat.le_trans (Nat.le_add_right _ _) hcs.2⟩ cx hw lk_L_116 (c_X8_houses l hJ.2.1 m1  (m2, r) e2) (ci := 8) rfl (lModel_is hJ.2.1) rfl hl.1 rfl (Nat.le_of_ble_eq_true rfl) ⟨rfl, rfl, Nat.le_of_ble_eq_true rfl, Nat.le_of_ble_eq_true rfl⟩ dL_law_829 (fun H locs hw => ?_)
  refine lv_icmp_eq (tgt := 955) hx hb dL_law_832 (by decide) (fun _ => ?_) (fun hne => absurd rfl hne)
  exact kk K _ _ _ _ _ _ hJ inv' hw (Nat.le_add_right _ _) (Nat.le_add_right _ _) hl
set_option maxRecDepth 100000 in
set_option maxHeartbeats 4000000 in
theorem lc_25 {p : Program} {e : Env} {s : State} {m : MethodId} {below : List Frame} {meth : Method} {c : Code} {Q : State → Prop} (l : Launch) {b L : Nat} {xs : Nat → Int32} {G : nc_G} {K : nc_K} {mi : nc_Mem} {H : Heap} {locs : List Loc} {ls : Array Slot} {X M n cells slots : Nat} {x3 : Int32} (cx : nc_C p s m #[Value.ref b] c cL_law 4 RL G) (hX : va_X b L xs s s.heap) (hbl : b < s.heap.size) (hG : G.2.2.1 = s.heap.size ∧ G.2.2.2.1 = s.heap) (hJ : nc_J G K X M) (inv : nc_INV n X M (K.2.2 M 12) mi) (hn : n ≤ 1000) (hw : nc_W G K mi H locs) (hl : lv_has ls 4 [(0, .ref b), (1, .ref X), (2, .ref M), (3, .int x3)]) (in1 : vp_in (x3 + 1) L) (in2 : vp_in (x3 + 2) L) (in3 : vp_in (x3 + 3) L) (hcs : cells + 54 ≤ room_1.cells ∧ slots + 467 ≤ room_1.slots) (kk : nc_Kk p l e s m b below meth c Q G X M n x3 cells slots) : W p l e room_1 s m #[Value.ref b] below meth c H locs cells slots Q (F0 m 837 ls []) := by
  have hx := cx.1
  have hb := cx.2.1
  have hbA : ¬ (fun q : Nat => s.heap.size ≤ q) b := Nat.not_le.mpr hbl
  have hB : G.2.2.1 ≤ K.1 := hw.2.2.1
  obtain ⟨r, m1, m2, e1, e2, inv'⟩ := nc_INV_simz (y := K.2.2 M 13) (nz := K.1) hJ.2.2.1 (nc_J_z hJ) rfl (nc_J_tr hJ (by omega)) (nc_J_ap hJ (by omega)) inv (fun A wf => sim_days wf (xs (x3 + 1).toNatClampNeg) (xs (x3 + 2).toNatClampNeg))
  refine lv_aload_n hx hb dL_law_837 rfl (lv_at hl 1 rfl) ?_
  refine lv_aload_n hx hb dL_law_838 rfl (lv_at hl 0 rfl) ?_
  refine lv_iload_n hx hb dL_law_839 rfl (lv_at hl 3 rfl) ?_
  refine lv_iconst (v := 1) hx hb dL_law_840 (by decide) ?_
  refine lv_iadd hx hb dL_law_841 ?_
  refine va_sld hx hb hX hbl hbA (nc_S_of hG hw) in1 dL_law_842 ?_
  refine lv_aload_n hx hb dL_law_843 rfl (lv_at hl 0 rfl) ?_
  refine lv_iload_n hx hb dL_law_844 rfl (lv_at hl 3 rfl) ?_
  refine lv_iconst (v := 2) hx hb dL_law_845 (by decide) ?_
  refine lv_iadd hx hb dL_law_846 ?_
  refine va_sld hx hb hX hbl hbA (nc_S_of hG hw) in2 dL_law_847 ?_
  refine nc_dallVi ⟨Nat.le_trans (Nat.le_add_right _ _) hcs.1, Nat.le_trans (Nat.le_add_right _ _) hcs.2⟩ cx hw lk_L_117 (c_X7_days l hJ.1 mi (xs (x3 + 1).toNatClampNeg) (xs (x3 + 2).toNatClampNeg) (m1, r) e1) (ci := 7) rfl (lNC_is hJ.1) rfl hl.1 rfl (Nat.le_of_ble_eq_true rfl) ⟨rfl, rfl, Nat.le_of_ble_eq_true rfl, Nat.le_of_ble_eq_true rfl⟩ dL_law_848 (fun H locs hw => ?_)
  refine lv_aload_n hx hb dL_law_851 rfl (lv_at hl 2 rfl) ?_
  refine lv_aload_n hx hb dL_law_852 rfl (lv_at hl 0 rfl) ?_
  refine lv_iload_n hx hb dL_law_853 rfl (lv_at hl 3 rfl) ?_
  refine lv_iconst (v := 1) hx hb dL_law_854 (by decide) ?_
  refine lv_iadd hx hb dL_law_855 ?_
  refine va_sld hx hb hX hbl hbA (nc_S_of hG hw) in1 dL_law_856 ?_
  refine lv_aload_n hx hb dL_law_857 rfl (lv_at hl 0 rfl) ?_
  refine lv_iload_n hx hb dL_law_858 rfl (lv_at hl 3 rfl) ?_
  refine lv_iconst (v := 2) hx hb dL_law_859 (by decide) ?_
  refine lv_iadd hx hb dL_law_860 ?_
  refine va_sld hx hb hX hbl hbA (nc_S_of hG hw) in2 dL_law_861 ?_
  refine nc_dallX cx hw lk_L_120 (c_X8_days l hJ.2.1 rfl (nc_J_L hJ (by omega)) rfl m1 (xs (x3 + 1).toNatClampNeg) (xs (x3 + 2).toNatClampNeg) (m2, r) e2) (ci := 8) rfl (lModel_is hJ.2.1) rfl hl.1 rfl (Nat.le_of_ble_eq_true rfl) ⟨rfl, rfl, Nat.le_of_ble_eq_true rfl, Nat.le_of_ble_eq_true rfl⟩ hcs dL_law_862 (fun K' H locs hPK hw => ?_)
  refine lv_icmp_eq (tgt := 955) hx hb dL_law_865 (by decide) (fun _ => ?_) (fun hne => absurd rfl hne)
  obtain ⟨hJ', hz'⟩ := nc_J_PK hJ hB (by omega) hPK
  exact kk K' m2 _ _ _ _ _ hJ' (by rw [hz']; exact inv') hw (Nat.le_refl _) (Nat.le_refl _) hl
set_option maxRecDepth 100000 in
set_option maxHeartbeats 4000000 in
theorem lc_26 {p : Program} {e : Env} {s : State} {m : MethodId} {below : List Frame} {meth : Method} {c : Code} {Q : State → Prop} (l : Launch) {b L : Nat} {xs : Nat → Int32} {G : nc_G} {K : nc_K} {mi : nc_Mem} {H : Heap} {locs : List Loc} {ls : Array Slot} {X M n cells slots : Nat} {x3 : Int32} (cx : nc_C p s m #[Value.ref b] c cL_law 4 RL G) (hX : va_X b L xs s s.heap) (hbl : b < s.heap.size) (hG : G.2.2.1 = s.heap.size ∧ G.2.2.2.1 = s.heap) (hJ : nc_J G K X M) (inv : nc_INV n X M (K.2.2 M 12) mi) (hn : n ≤ 1000) (hw : nc_W G K mi H locs) (hl : lv_has ls 4 [(0, .ref b), (1, .ref X), (2, .ref M), (3, .int x3)]) (in1 : vp_in (x3 + 1) L) (in2 : vp_in (x3 + 2) L) (in3 : vp_in (x3 + 3) L) (hcs : cells + 54 ≤ room_1.cells ∧ slots + 467 ≤ room_1.slots) (kk : nc_Kk p l e s m b below meth c Q G X M n x3 cells slots) : W p l e room_1 s m #[Value.ref b] below meth c H locs cells slots Q (F0 m 870 ls []) := by
  have hx := cx.1
  have hb := cx.2.1
  have hbA : ¬ (fun q : Nat => s.heap.size ≤ q) b := Nat.not_le.mpr hbl
  have hB : G.2.2.1 ≤ K.1 := hw.2.2.1
  obtain ⟨r, m1, m2, e1, e2, inv'⟩ := nc_INV_sim hJ.2.2.1 (nc_J_z hJ) inv (fun A wf => sim_row wf (xs (x3 + 1).toNatClampNeg))
  refine lv_aload_n hx hb dL_law_870 rfl (lv_at hl 1 rfl) ?_
  refine lv_aload_n hx hb dL_law_871 rfl (lv_at hl 0 rfl) ?_
  refine lv_iload_n hx hb dL_law_872 rfl (lv_at hl 3 rfl) ?_
  refine lv_iconst (v := 1) hx hb dL_law_873 (by decide) ?_
  refine lv_iadd hx hb dL_law_874 ?_
  refine va_sld hx hb hX hbl hbA (nc_S_of hG hw) in1 dL_law_875 ?_
  refine nc_dallVi ⟨Nat.le_trans (Nat.le_add_right _ _) hcs.1, Nat.le_trans (Nat.le_add_right _ _) hcs.2⟩ cx hw lk_L_121 (c_X7_row l hJ.1 mi (xs (x3 + 1).toNatClampNeg) (m1, r) e1) (ci := 7) rfl (lNC_is hJ.1) rfl hl.1 rfl (Nat.le_of_ble_eq_true rfl) ⟨rfl, rfl, Nat.le_of_ble_eq_true rfl, Nat.le_of_ble_eq_true rfl⟩ dL_law_876 (fun H locs hw => ?_)
  refine lv_aload_n hx hb dL_law_879 rfl (lv_at hl 2 rfl) ?_
  refine lv_aload_n hx hb dL_law_880 rfl (lv_at hl 0 rfl) ?_
  refine lv_iload_n hx hb dL_law_881 rfl (lv_at hl 3 rfl) ?_
  refine lv_iconst (v := 1) hx hb dL_law_882 (by decide) ?_
  refine lv_iadd hx hb dL_law_883 ?_
  refine va_sld hx hb hX hbl hbA (nc_S_of hG hw) in1 dL_law_884 ?_
  refine nc_dallVi ⟨Nat.le_trans (Nat.le_add_right _ _) hcs.1, Nat.le_trans (Nat.le_add_right _ _) hcs.2⟩ cx hw lk_L_124 (c_X8_row l hJ.2.1 m1 (xs (x3 + 1).toNatClampNeg) (m2, r) e2) (ci := 8) rfl (lModel_is hJ.2.1) rfl hl.1 rfl (Nat.le_of_ble_eq_true rfl) ⟨rfl, rfl, Nat.le_of_ble_eq_true rfl, Nat.le_of_ble_eq_true rfl⟩ dL_law_885 (fun H locs hw => ?_)
  refine lv_icmp_eq (tgt := 955) hx hb dL_law_888 (by decide) (fun _ => ?_) (fun hne => absurd rfl hne)
  exact kk K _ _ _ _ _ _ hJ inv' hw (Nat.le_add_right _ _) (Nat.le_add_right _ _) hl
set_option maxRecDepth 100000 in
set_option maxHeartbeats 4000000 in
theorem lc_27 {p : Program} {e : Env} {s : State} {m : MethodId} {below : List Frame} {meth : Method} {c : Code} {Q : State → Prop} (l : Launch) {b L : Nat} {xs : Nat → Int32} {G : nc_G} {K : nc_K} {mi : nc_Mem} {H : Heap} {locs : List Loc} {ls : Array Slot} {X M n cells slots : Nat} {x3 : Int32} (cx : nc_C p s m #[Value.ref b] c cL_law 4 RL G) (hX : va_X b L xs s s.heap) (hbl : b < s.heap.size) (hG : G.2.2.1 = s.heap.size ∧ G.2.2.2.1 = s.heap) (hJ : nc_J G K X M) (inv : nc_INV n X M (K.2.2 M 12) mi) (hn : n ≤ 1000) (hw : nc_W G K mi H locs) (hl : lv_has ls 4 [(0, .ref b), (1, .ref X), (2, .ref M), (3, .int x3)]) (in1 : vp_in (x3 + 1) L) (in2 : vp_in (x3 + 2) L) (in3 : vp_in (x3 + 3) L) (hcs : cells + 54 ≤ room_1.cells ∧ slots + 467 ≤ room_1.slots) (kk : nc_Kk p l e s m b below meth c Q G X M n x3 cells slots) : W p l e room_1 s m #[Value.ref b] below meth c H locs cells slots Q (F0 m 893 ls []) := by
  have hx := cx.1
  have hb := cx.2.1
  have hbA : ¬ (fun q : Nat => s.heap.size ≤ q) b := Nat.not_le.mpr hbl
  have hB : G.2.2.1 ≤ K.1 := hw.2.2.1
  obtain ⟨r, m1, m2, e1, e2, inv'⟩ := nc_INV_sim hJ.2.2.1 (nc_J_z hJ) inv (fun A wf => sim_judge wf)
  refine lv_aload_n hx hb dL_law_893 rfl (lv_at hl 1 rfl) ?_
  refine nc_dallVi ⟨Nat.le_trans (Nat.le_add_right _ _) hcs.1, Nat.le_trans (Nat.le_add_right _ _) hcs.2⟩ cx hw lk_L_125 (c_X7_judge l hJ.1 mi  (m1, r) e1) (ci := 7) rfl (lNC_is hJ.1) rfl hl.1 rfl (Nat.le_of_ble_eq_true rfl) ⟨rfl, rfl, Nat.le_of_ble_eq_true rfl, Nat.le_of_ble_eq_true rfl⟩ dL_law_894 (fun H locs hw => ?_)
  refine lv_aload_n hx hb dL_law_897 rfl (lv_at hl 2 rfl) ?_
  refine nc_dallVi ⟨Nat.le_trans (Nat.le_add_right _ _) hcs.1, Nat.le_trans (Nat.le_add_right _ _) hcs.2⟩ cx hw lk_L_128 (c_X8_judge l hJ.2.1 m1  (m2, r) e2) (ci := 8) rfl (lModel_is hJ.2.1) rfl hl.1 rfl (Nat.le_of_ble_eq_true rfl) ⟨rfl, rfl, Nat.le_of_ble_eq_true rfl, Nat.le_of_ble_eq_true rfl⟩ dL_law_898 (fun H locs hw => ?_)
  refine lv_icmp_eq (tgt := 955) hx hb dL_law_901 (by decide) (fun _ => ?_) (fun hne => absurd rfl hne)
  exact kk K _ _ _ _ _ _ hJ inv' hw (Nat.le_add_right _ _) (Nat.le_add_right _ _) hl
set_option maxRecDepth 100000 in
set_option maxHeartbeats 4000000 in
theorem lc_28 {p : Program} {e : Env} {s : State} {m : MethodId} {below : List Frame} {meth : Method} {c : Code} {Q : State → Prop} (l : Launch) {b L : Nat} {xs : Nat → Int32} {G : nc_G} {K : nc_K} {mi : nc_Mem} {H : Heap} {locs : List Loc} {ls : Array Slot} {X M n cells slots : Nat} {x3 : Int32} (cx : nc_C p s m #[Value.ref b] c cL_law 4 RL G) (hX : va_X b L xs s s.heap) (hbl : b < s.heap.size) (hG : G.2.2.1 = s.heap.size ∧ G.2.2.2.1 = s.heap) (hJ : nc_J G K X M) (inv : nc_INV n X M (K.2.2 M 12) mi) (hn : n ≤ 1000) (hw : nc_W G K mi H locs) (hl : lv_has ls 4 [(0, .ref b), (1, .ref X), (2, .ref M), (3, .int x3)]) (in1 : vp_in (x3 + 1) L) (in2 : vp_in (x3 + 2) L) (in3 : vp_in (x3 + 3) L) (hcs : cells + 54 ≤ room_1.cells ∧ slots + 467 ≤ room_1.slots) (kk : nc_Kk p l e s m b below meth c Q G X M n x3 cells slots) : W p l e room_1 s m #[Value.ref b] below meth c H locs cells slots Q (F0 m 906 ls []) := by
  have hx := cx.1
  have hb := cx.2.1
  have hbA : ¬ (fun q : Nat => s.heap.size ≤ q) b := Nat.not_le.mpr hbl
  have hB : G.2.2.1 ≤ K.1 := hw.2.2.1
  obtain ⟨r, m1, m2, e1, e2, inv'⟩ := nc_INV_image (nz := K.1) hJ.2.2.1 rfl (nc_J_tr hJ (by omega)) inv
  refine lv_aload_n hx hb dL_law_906 rfl (lv_at hl 1 rfl) ?_
  refine nc_dallVi ⟨Nat.le_trans (Nat.le_add_right _ _) hcs.1, Nat.le_trans (Nat.le_add_right _ _) hcs.2⟩ cx hw lk_L_129 (c_X7_image l hJ.1 mi  (m1, r) e1) (ci := 7) rfl (lNC_is hJ.1) rfl hl.1 rfl (Nat.le_of_ble_eq_true rfl) ⟨rfl, rfl, Nat.le_of_ble_eq_true rfl, Nat.le_of_ble_eq_true rfl⟩ dL_law_907 (fun H locs hw => ?_)
  refine lv_aload_n hx hb dL_law_910 rfl (lv_at hl 2 rfl) ?_
  refine nc_dallX cx hw lk_L_132 (c_X8_image l hJ.2.1 rfl (nc_J_L hJ (by omega)) rfl m1  (m2, r) e2) (ci := 8) rfl (lModel_is hJ.2.1) rfl hl.1 rfl (Nat.le_of_ble_eq_true rfl) ⟨rfl, rfl, Nat.le_of_ble_eq_true rfl, Nat.le_of_ble_eq_true rfl⟩ hcs dL_law_911 (fun K' H locs hPK hw => ?_)
  refine lv_icmp_eq (tgt := 955) hx hb dL_law_914 (by decide) (fun _ => ?_) (fun hne => absurd rfl hne)
  obtain ⟨hJ', hz'⟩ := nc_J_PKi hJ hB hPK
  exact kk K' m2 _ _ _ _ _ hJ' (by rw [hz']; exact inv') hw (Nat.le_refl _) (Nat.le_refl _) hl
set_option maxRecDepth 100000 in
set_option maxHeartbeats 4000000 in
theorem lc_29 {p : Program} {e : Env} {s : State} {m : MethodId} {below : List Frame} {meth : Method} {c : Code} {Q : State → Prop} (l : Launch) {b L : Nat} {xs : Nat → Int32} {G : nc_G} {K : nc_K} {mi : nc_Mem} {H : Heap} {locs : List Loc} {ls : Array Slot} {X M n cells slots : Nat} {x3 : Int32} (cx : nc_C p s m #[Value.ref b] c cL_law 4 RL G) (hX : va_X b L xs s s.heap) (hbl : b < s.heap.size) (hG : G.2.2.1 = s.heap.size ∧ G.2.2.2.1 = s.heap) (hJ : nc_J G K X M) (inv : nc_INV n X M (K.2.2 M 12) mi) (hn : n ≤ 1000) (hw : nc_W G K mi H locs) (hl : lv_has ls 4 [(0, .ref b), (1, .ref X), (2, .ref M), (3, .int x3)]) (in1 : vp_in (x3 + 1) L) (in2 : vp_in (x3 + 2) L) (in3 : vp_in (x3 + 3) L) (hcs : cells + 54 ≤ room_1.cells ∧ slots + 467 ≤ room_1.slots) (kk : nc_Kk p l e s m b below meth c Q G X M n x3 cells slots) : W p l e room_1 s m #[Value.ref b] below meth c H locs cells slots Q (F0 m 919 ls []) := by
  have hx := cx.1
  have hb := cx.2.1
  have hbA : ¬ (fun q : Nat => s.heap.size ≤ q) b := Nat.not_le.mpr hbl
  have hB : G.2.2.1 ≤ K.1 := hw.2.2.1
  obtain ⟨r, m1, m2, e1, e2, inv'⟩ := nc_INV_on hJ.2.2.1 (nc_J_z hJ) inv
  refine lv_aload_n hx hb dL_law_919 rfl (lv_at hl 1 rfl) ?_
  refine nc_dallVi ⟨Nat.le_trans (Nat.le_add_right _ _) hcs.1, Nat.le_trans (Nat.le_add_right _ _) hcs.2⟩ cx hw lk_L_133 (c_X7_on l hJ.1 mi  (m1, r) e1) (ci := 7) rfl (lNC_is hJ.1) rfl hl.1 rfl (Nat.le_of_ble_eq_true rfl) ⟨rfl, rfl, Nat.le_of_ble_eq_true rfl, Nat.le_of_ble_eq_true rfl⟩ dL_law_920 (fun H locs hw => ?_)
  refine lv_aload_n hx hb dL_law_923 rfl (lv_at hl 2 rfl) ?_
  refine nc_dallVi ⟨Nat.le_trans (Nat.le_add_right _ _) hcs.1, Nat.le_trans (Nat.le_add_right _ _) hcs.2⟩ cx hw lk_L_136 (c_X8_on l hJ.2.1 rfl (nc_J_L hJ (by omega)) m1 (m2, r) e2) (ci := 8) rfl (lModel_is hJ.2.1) rfl hl.1 rfl (Nat.le_of_ble_eq_true rfl) ⟨rfl, rfl, Nat.le_of_ble_eq_true rfl, Nat.le_of_ble_eq_true rfl⟩ dL_law_924 (fun H locs hw => ?_)
  refine lv_icmp_eq (tgt := 955) hx hb dL_law_927 (by decide) (fun _ => ?_) (fun hne => absurd rfl hne)
  exact kk K _ _ _ _ _ _ hJ inv' hw (Nat.le_add_right _ _) (Nat.le_add_right _ _) hl
set_option maxRecDepth 100000 in
set_option maxHeartbeats 4000000 in
theorem lc_30 {p : Program} {e : Env} {s : State} {m : MethodId} {below : List Frame} {meth : Method} {c : Code} {Q : State → Prop} (l : Launch) {b L : Nat} {xs : Nat → Int32} {G : nc_G} {K : nc_K} {mi : nc_Mem} {H : Heap} {locs : List Loc} {ls : Array Slot} {X M n cells slots : Nat} {x3 : Int32} (cx : nc_C p s m #[Value.ref b] c cL_law 4 RL G) (hX : va_X b L xs s s.heap) (hbl : b < s.heap.size) (hG : G.2.2.1 = s.heap.size ∧ G.2.2.2.1 = s.heap) (hJ : nc_J G K X M) (inv : nc_INV n X M (K.2.2 M 12) mi) (hn : n ≤ 1000) (hw : nc_W G K mi H locs) (hl : lv_has ls 4 [(0, .ref b), (1, .ref X), (2, .ref M), (3, .int x3)]) (in1 : vp_in (x3 + 1) L) (in2 : vp_in (x3 + 2) L) (in3 : vp_in (x3 + 3) L) (hcs : cells + 54 ≤ room_1.cells ∧ slots + 467 ≤ room_1.slots) (kk : nc_Kk p l e s m b below meth c Q G X M n x3 cells slots) : W p l e room_1 s m #[Value.ref b] below meth c H locs cells slots Q (F0 m 932 ls []) := by
  have hx := cx.1
  have hb := cx.2.1
  have hbA : ¬ (fun q : Nat => s.heap.size ≤ q) b := Nat.not_le.mpr hbl
  have hB : G.2.2.1 ≤ K.1 := hw.2.2.1
  obtain ⟨r, m1, m2, e1, e2, inv'⟩ := nc_INV_sim hJ.2.2.1 (nc_J_z hJ) inv (fun A wf => sim_count wf (xs (x3 + 1).toNatClampNeg))
  obtain ⟨r1, d1, d2⟩ := Option.map_eq_some_iff.mp e1
  cases d2
  obtain ⟨r2, d3, d4⟩ := Option.map_eq_some_iff.mp e2
  cases d4
  refine lv_aload_n hx hb dL_law_932 rfl (lv_at hl 1 rfl) ?_
  refine lv_aload_n hx hb dL_law_933 rfl (lv_at hl 0 rfl) ?_
  refine lv_iload_n hx hb dL_law_934 rfl (lv_at hl 3 rfl) ?_
  refine lv_iconst (v := 1) hx hb dL_law_935 (by decide) ?_
  refine lv_iadd hx hb dL_law_936 ?_
  refine va_sld hx hb hX hbl hbA (nc_S_of hG hw) in1 dL_law_937 ?_
  refine nc_dallVi ⟨Nat.le_trans (Nat.le_add_right _ _) hcs.1, Nat.le_trans (Nat.le_add_right _ _) hcs.2⟩ cx hw lk_L_137 (c_X7_count l hJ.1 mi (xs (x3 + 1).toNatClampNeg) r d1) (ci := 7) rfl (lNC_is hJ.1) rfl hl.1 rfl (Nat.le_of_ble_eq_true rfl) ⟨rfl, rfl, Nat.le_of_ble_eq_true rfl, Nat.le_of_ble_eq_true rfl⟩ dL_law_938 (fun H locs hw => ?_)
  refine lv_aload_n hx hb dL_law_941 rfl (lv_at hl 2 rfl) ?_
  refine lv_aload_n hx hb dL_law_942 rfl (lv_at hl 0 rfl) ?_
  refine lv_iload_n hx hb dL_law_943 rfl (lv_at hl 3 rfl) ?_
  refine lv_iconst (v := 1) hx hb dL_law_944 (by decide) ?_
  refine lv_iadd hx hb dL_law_945 ?_
  refine va_sld hx hb hX hbl hbA (nc_S_of hG hw) in1 dL_law_946 ?_
  refine nc_dallVi ⟨Nat.le_trans (Nat.le_add_right _ _) hcs.1, Nat.le_trans (Nat.le_add_right _ _) hcs.2⟩ cx hw lk_L_140 (c_X8_count l hJ.2.1 mi (xs (x3 + 1).toNatClampNeg) r d3) (ci := 8) rfl (lModel_is hJ.2.1) rfl hl.1 rfl (Nat.le_of_ble_eq_true rfl) ⟨rfl, rfl, Nat.le_of_ble_eq_true rfl, Nat.le_of_ble_eq_true rfl⟩ dL_law_947 (fun H locs hw => ?_)
  refine lv_icmp_eq (tgt := 955) hx hb dL_law_950 (by decide) (fun _ => ?_) (fun hne => absurd rfl hne)
  exact kk K _ _ _ _ _ _ hJ inv' hw (Nat.le_add_right _ _) (Nat.le_add_right _ _) hl
