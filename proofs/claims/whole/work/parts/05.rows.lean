section NCR
variable {p : Program} {l : Launch} {e : Env} {R : Room} {s : State} {m : MethodId} {args : Array Value} {below : List Frame} {meth : Method} {c : Code} {H : Heap} {locs : List Loc} {cells slots : Nat} {Q : State → Prop}
variable {cc : ByteArray} {pc nL : Nat} {ls : Array Slot} {rest : List Value} {own : String} {G : nc_G} {K : nc_K} {mi : nc_Mem}
/-- getfield of an int -/
theorem nc_geti (cx : nc_C p s m args c cc nL own G) (hw : nc_W G K mi H locs) {ci k N index a : Nat} {C : String} {T : u_T} (hc : nc_cl[ci]? = some (C, T, N)) (hk : k < N) (hr : nc_isR ci k = false) (hm : Cond.fieldLink own index (T k).1 (T k).2.1 (T k).2.2.1 ∈ nc_U) (ha : nc_Is G K a (ci, N)) (hdg : decode cc pc = .ok (.getfield index, 3))
    (kk : W p l e R s m args below meth c H locs cells slots Q (F0 m (pc + 3) ls (.int (mi a k) :: rest))) : W p l e R s m args below meth c H locs cells slots Q (F0 m pc ls (.ref a :: rest)) := by
  obtain ⟨hx, hb, hml, hown, hts, hE⟩ := cx
  have hK := hE.1
  obtain ⟨cell, q1, q2, q3, q4⟩ := (nc_cell_obj (nc_cl_lt hc)).mp (nc_at_cell hw ha)
  obtain ⟨hS, hfc, kC, hkC, hkind⟩ := hK.1 ci _ hc
  obtain ⟨cf, kf, fi, f, hi, hsl⟩ := hS k hk
  refine W.getf hx hb hown (hts _ hm) hi (u_facts hfc hkC (u_lays hts (nc_lay hc) hk) hi).1 q1 (by rw [q3]; exact fun h => by cases h) (v := .int (mi a k)) ?_ rfl rfl hdg kk
  rw [hsl, q4 k hk]
  simp [nc_V, hr]
/-- getfield of a reference, by what the layout says of it -/
theorem nc_getv (cx : nc_C p s m args c cc nL own G) (hw : nc_W G K mi H locs) {ci k N index a : Nat} {C : String} {T : u_T} (hc : nc_cl[ci]? = some (C, T, N)) (hk : k < N) (hr : nc_isR ci k = true) (hm : Cond.fieldLink own index (T k).1 (T k).2.1 (T k).2.2.1 ∈ nc_U) (ha : nc_Is G K a (ci, N)) (hdg : decode cc pc = .ok (.getfield index, 3))
    (kk : W p l e R s m args below meth c H locs cells slots Q (F0 m (pc + 3) ls (nc_rv (K.2.2 a k) :: rest))) : W p l e R s m args below meth c H locs cells slots Q (F0 m pc ls (.ref a :: rest)) := by
  obtain ⟨hx, hb, hml, hown, hts, hE⟩ := cx
  have hK := hE.1
  obtain ⟨cell, q1, q2, q3, q4⟩ := (nc_cell_obj (nc_cl_lt hc)).mp (nc_at_cell hw ha)
  obtain ⟨hS, hfc, kC, hkC, hkind⟩ := hK.1 ci _ hc
  obtain ⟨cf, kf, fi, f, hi, hsl⟩ := hS k hk
  refine W.getf hx hb hown (hts _ hm) hi (u_facts hfc hkC (u_lays hts (nc_lay hc) hk) hi).1 q1 (by rw [q3]; exact fun h => by cases h) (v := nc_rv (K.2.2 a k)) ?_ rfl rfl hdg kk
  rw [hsl, q4 k hk]
  simp [nc_V, hr]
theorem nc_getr (cx : nc_C p s m args c cc nL own G) (hw : nc_W G K mi H locs) {ci k N index a b : Nat} {C : String} {T : u_T} (hc : nc_cl[ci]? = some (C, T, N)) (hk : k < N) (hr : nc_isR ci k = true) (hm : Cond.fieldLink own index (T k).1 (T k).2.1 (T k).2.2.1 ∈ nc_U) (ha : nc_Is G K a (ci, N)) {kn : Nat × Nat} (hmr : K.2.2 a k = b) (hb : nc_Is G K b kn) (hdg : decode cc pc = .ok (.getfield index, 3))
    (kk : W p l e R s m args below meth c H locs cells slots Q (F0 m (pc + 3) ls (.ref b :: rest))) : W p l e R s m args below meth c H locs cells slots Q (F0 m pc ls (.ref a :: rest)) := by
  have h0 : 0 < b := Nat.lt_of_lt_of_le hw.2.1 hb.1
  refine nc_getv cx hw hc hk hr hm ha hdg ?_
  rw [hmr, nc_rv_pos h0]
  exact kk
/-- putfield of an int -/
theorem nc_puti (cx : nc_C p s m args c cc nL own G) (hw : nc_W G K mi H locs) {ci k N index a : Nat} {C : String} {T : u_T} {v : Int32} {ty : FieldType} (hc : nc_cl[ci]? = some (C, T, N)) (hk : k < N) (hr : nc_isR ci k = false) (hfin : (T k).2.2.2 = false) (hd : parseFieldDescriptor (T k).2.2.1 = some ty) (hn : narrow ty (.int v) = .int v) (hfit : fits ty (.int v) = true) (hm : Cond.fieldLink own index (T k).1 (T k).2.1 (T k).2.2.1 ∈ nc_U) (ha : nc_Is G K a (ci, N)) (hdg : decode cc pc = .ok (.putfield index, 3))
    (kk : ∀ (mi1 : nc_Mem) (H1 : Heap) (locs1 : List Loc), mi1 = nc_up mi a k v → nc_W G K mi1 H1 locs1 → W p l e R s m args below meth c H1 locs1 cells slots Q (F0 m (pc + 3) ls rest)) : W p l e R s m args below meth c H locs cells slots Q (F0 m pc ls (.int v :: .ref a :: rest)) := by
  obtain ⟨hx, hb, hml, hown, hts, hE⟩ := cx
  have hK := hE.1
  obtain ⟨ty0, hty⟩ := nc_types hc
  have hap := va_apart (own := own) hts (nc_lay hc) ty0 hty (nc_names hc) hK hc
  obtain ⟨cell, q1, q2, q3, q4⟩ := (nc_cell_obj (nc_cl_lt hc)).mp (nc_at_cell hw ha)
  obtain ⟨hS, hfc, kC, hkC, hkind⟩ := hK.1 ci _ hc
  obtain ⟨cf, kf, fi, f, hi, hsl⟩ := hS k hk
  have hlay := hts _ (nc_lay hc _ (u_in_lay hk))
  unfold u_lay at hlay
  rw [if_neg (by rw [hfin]; decide)] at hlay
  have hst := (u_facts hfc hkC (u_lays hts (nc_lay hc) hk) hi).1
  have h6 := u_store hfc hkC hkind hlay hi hd hn hfit
  refine W.putK hx hb (f := f) ⟨hown, hts _ hm, ⟨_, _, _, hi⟩, hst⟩ (by rw [q2]; exact h6) q1 q3 (by rw [hsl]; exact k2_hasslot (q4 k hk)) rfl rfl hdg fun H' e1 e2 e3 => ?_
  rw [hsl] at e1 ⊢
  refine kk _ H' _ rfl (nc_W_set hw ha e2 e3 ((nc_cell_obj (nc_cl_lt hc)).mpr ?_))
  refine t_OB.to (V := updV (nc_V ci (mi a) (K.2.2 a)) k (.int v)) ⟨_, e1, q2, q3, t_set q4 hap hk _⟩ (fun j _ => ?_)
  by_cases hj : j = k
  · subst hj
    simp [updV, nc_V, hr, upd]
  · simp [updV, nc_V, hj, upd]
theorem nc_iald (cx : nc_C p s m args c cc nL own G) (hw : nc_W G K mi H locs) {a n : Nat} {i : Int32} (ha : nc_Is G K a (9, n)) (hin : vp_in i n) (hdg : decode cc pc = .ok (.iaload, 1))
    (kk : W p l e R s m args below meth c H locs cells slots Q (F0 m (pc + 1) ls (.int (mi a i.toNatClampNeg) :: rest))) : W p l e R s m args below meth c H locs cells slots Q (F0 m pc ls (.int i :: .ref a :: rest)) := by
  obtain ⟨hx, hb, hml, hown, hts, hE⟩ := cx
  have hK := hE.1
  have hP : va_P G.1 nc_cl [(a, .inl (G.2.1 9, n, .inl (mi a)))] H := fun k q hq => by
    have hk : k = 0 := by have := (List.getElem?_eq_some_iff.mp hq).1; simp at this; exact this
    subst hk
    cases hq
    exact nc_cell_int.mp (nc_at_cell hw ha)
  exact va_iald hx hb hK hP 0 0 rfl rfl hin hdg kk
theorem nc_alen (cx : nc_C p s m args c cc nL own G) (hw : nc_W G K mi H locs) {a n : Nat} {v : Int32} (ha : nc_Is G K a (9, n)) (hv : Int32.ofNat n = v) (hdg : decode cc pc = .ok (.arraylength, 1))
    (kk : W p l e R s m args below meth c H locs cells slots Q (F0 m (pc + 1) ls (.int v :: rest))) : W p l e R s m args below meth c H locs cells slots Q (F0 m pc ls (.ref a :: rest)) := by
  obtain ⟨hx, hb, hml, hown, hts, hE⟩ := cx
  have hK := hE.1
  have hP : va_P G.1 nc_cl [(a, .inl (G.2.1 9, n, .inl (mi a)))] H := fun k q hq => by
    have hk : k = 0 := by have := (List.getElem?_eq_some_iff.mp hq).1; simp at this; exact this
    subst hk
    cases hq
    exact nc_cell_int.mp (nc_at_cell hw ha)
  exact va_alen hx hb hK hP 0 0 rfl rfl hv hdg kk
theorem nc_iast (cx : nc_C p s m args c cc nL own G) (hw : nc_W G K mi H locs) {a n : Nat} {i v : Int32} (ha : nc_Is G K a (9, n)) (hin : vp_in i n) (hdg : decode cc pc = .ok (.iastore, 1))
    (kk : ∀ (mi1 : nc_Mem) (H1 : Heap) (locs1 : List Loc), mi1 = nc_up mi a i.toNatClampNeg v → nc_W G K mi1 H1 locs1 → W p l e R s m args below meth c H1 locs1 cells slots Q (F0 m (pc + 1) ls rest)) : W p l e R s m args below meth c H locs cells slots Q (F0 m pc ls (.int v :: .int i :: .ref a :: rest)) := by
  obtain ⟨hx, hb, hml, hown, hts, hE⟩ := cx
  have hK := hE.1
  have hcell := nc_cell_int.mp (nc_at_cell hw ha)
  refine W.iast hx hb hcell ((hK.2 0 _ rfl).1 n (fun j => .int (mi a j))) (fun q => by cases q) (by rw [arrV_size]; exact hin) rfl rfl hdg fun H1 e1 z1 oq => ?_
  refine kk _ H1 _ rfl (nc_W_set hw ha z1 oq (nc_cell_int.mpr ?_))
  rw [e1, arrV_store]
  congr 2
  funext q
  by_cases hq : q = i.toNatClampNeg
  · subst hq
    simp [updV, upd]
  · simp [updV, upd, hq]
/-- aaload, by what the layout says of the place -/
theorem nc_aald (cx : nc_C p s m args c cc nL own G) (hw : nc_W G K mi H locs) {a n b ki : Nat} {i : Int32} (hki : 9 < ki ∧ ki < 14) (ha : nc_Is G K a (ki, n)) (hin : vp_in i n) {kn : Nat × Nat} (hmr : K.2.2 a i.toNatClampNeg = b) (hb : nc_Is G K b kn) (hdg : decode cc pc = .ok (.aaload, 1))
    (kk : W p l e R s m args below meth c H locs cells slots Q (F0 m (pc + 1) ls (.ref b :: rest))) : W p l e R s m args below meth c H locs cells slots Q (F0 m pc ls (.int i :: .ref a :: rest)) := by
  have h0 : 0 < b := Nat.lt_of_lt_of_le hw.2.1 hb.1
  obtain ⟨hx, hbc, hml, hown, hts, hE⟩ := cx
  have hK := hE.1
  have hcell := (nc_cell_ref hki.1).mp (nc_at_cell hw ha)
  have hlt : i.toNatClampNeg < n := Nat.not_le.mp fun q => hin (Or.inr q)
  have hT : ∃ ty : FieldType, ty.isReference = true ∧ ArrOfT s (G.2.1 ki) ty := by
    rcases (show ki = 10 ∨ ki = 11 ∨ ki = 12 ∨ ki = 13 by omega) with rfl | rfl | rfl | rfl
    · exact ⟨_, rfl, (hK.2 1 _ rfl).1⟩
    · exact ⟨_, rfl, (hK.2 2 _ rfl).1⟩
    · exact ⟨_, rfl, (hK.2 3 _ rfl).1⟩
    · exact ⟨_, rfl, (hK.2 4 _ rfl).1⟩
  obtain ⟨ty, hty, hA⟩ := hT
  refine W.aald (v := .ref b) hx hbc hcell (hA n (fun j => nc_rv (K.2.2 a j))) hty (fun q => by cases q) (by rw [arrV_size]; exact hin) ?_ rfl rfl hdg kk
  rw [arrV_read _ _ hlt, hmr, nc_rv_pos h0]
theorem nc_alenr (cx : nc_C p s m args c cc nL own G) (hw : nc_W G K mi H locs) {a n ki : Nat} {v : Int32} (hki : 9 < ki ∧ ki < 14) (ha : nc_Is G K a (ki, n)) (hv : Int32.ofNat n = v) (hdg : decode cc pc = .ok (.arraylength, 1))
    (kk : W p l e R s m args below meth c H locs cells slots Q (F0 m (pc + 1) ls (.int v :: rest))) : W p l e R s m args below meth c H locs cells slots Q (F0 m pc ls (.ref a :: rest)) := by
  obtain ⟨hx, hbc, hml, hown, hts, hE⟩ := cx
  have hK := hE.1
  have hcell := (nc_cell_ref hki.1).mp (nc_at_cell hw ha)
  have hT : ∃ ty : FieldType, ArrOfT s (G.2.1 ki) ty := by
    rcases (show ki = 10 ∨ ki = 11 ∨ ki = 12 ∨ ki = 13 by omega) with rfl | rfl | rfl | rfl
    · exact ⟨_, (hK.2 1 _ rfl).1⟩
    · exact ⟨_, (hK.2 2 _ rfl).1⟩
    · exact ⟨_, (hK.2 3 _ rfl).1⟩
    · exact ⟨_, (hK.2 4 _ rfl).1⟩
  obtain ⟨ty, hA⟩ := hT
  exact W.alen (n := v) hx hbc hcell (hA n (fun j => nc_rv (K.2.2 a j))) (by rw [arrV_size]; exact hv) rfl rfl hdg kk
theorem nc_ldc (cx : nc_C p s m args c cc nL own G) {index : Nat} {v : Int32} (hm : Cond.constant own index v ∈ nc_U) (hdg : decode cc pc = .ok (.ldc index, 2)) (kk : W p l e R s m args below meth c H locs cells slots Q (F0 m (pc + 2) ls (.int v :: rest))) : W p l e R s m args below meth c H locs cells slots Q (F0 m pc ls rest) :=
  lv_ldc cx.1 cx.2.1 cx.2.2.2.1 (cx.2.2.2.2.1 _ hm) hdg kk
-- calls that make no cell
theorem nc_runV {index maxL n b ci N : Nat} {C : String} {T : u_T} {y : MethodName} {bytes : ByteArray} {ret : Option FieldType} {rm : Room} {As : List Value} {mi' : nc_Mem} {rv : Option Value} {st0 : List Value} {K' : nc_K} {mc ms : Nat} (cx : nc_C p s m args c cc nL own G) (hw : nc_W G K mi H locs) (hl : nc_LV own index C y bytes maxL ret n) (hM : nc_M l y bytes maxL ret rm mc ms G K K' (.ref b :: As) mi mi' rv) (hc : nc_cl[ci]? = some (C, T, N)) (ha : nc_Is G K b (ci, N))
    (hn : As.length = n) (hsz : ls.size = nL) (hst : st0 = As.reverse ++ .ref b :: rest) (hW : (rest.map fun v => v.category).sum ≤ 8) (hR : rm.cells = mc ∧ rm.slots = ms ∧ rm.frames + 1 ≤ R.frames ∧ 8 + (maxL + 11) + rm.locals ≤ R.locals) (hcs : cells + mc ≤ R.cells ∧ slots + ms ≤ R.slots) (hdg : decode cc pc = .ok (.invokevirtual index, 3))
    (kk : ∀ (H1 : Heap) (locs1 : List Loc), nc_W G K' mi' H1 locs1 → W p l e R s m args below meth c H1 locs1 (cells + mc) (slots + ms) Q (F0 m (pc + 3) ls (rv.toList ++ rest))) : W p l e R s m args below meth c H locs cells slots Q (F0 m pc ls st0) := by
  obtain ⟨hx, hb, hml, hown, hts, hE⟩ := cx
  have hK := hE.1
  obtain ⟨cell, q1, q2, q3, q4⟩ := (nc_cell_obj (nc_cl_lt hc)).mp (nc_at_cell hw ha)
  have hrun := va_runV (Ts := nc_U) (g := F0 m pc ls st0) (locs := locs) (cells := cells) (slots := slots) (below := below) (meth := meth) (rest := rest) (H := H) (e := e) ⟨hx, hb, hml, hown, hts⟩ hM (cwV (R := R) n hts (nc_LV_good hl) rfl hR.1 hR.2.1 hl.2.2.2.2.2 ⟨hR.2.2.1, hR.2.2.2⟩)
    ⟨nc_blind G K mi _, ⟨cell, q1, by rw [q3]; rfl, by rw [q2]; exact (hK.1 ci _ hc).2.1⟩, fun U hU hW => ⟨rfl, by rw [hU]; exact nc_W_locs hw (fun _ h => by cases h), nc_E_warm hW hE⟩⟩
    rfl hn hsz hst (lv_room hW) hdg hcs
  intro T0 hT X
  obtain ⟨v, st₀, t, T', L, h0, X', hL, e1, e2, ⟨hv, hW'⟩, st⟩ := hrun T0 hT X
  cases hv
  obtain ⟨t2, a1, b1⟩ := kk T'.heap (locs ++ L) (nc_W_locs (by rw [e1]; exact hW') (fun q hq => by
    rcases List.mem_append.mp hq with h | h
    · exact hw.2.2.2.2.2.2 q h
    · exact hL q h)) T' rfl X'
  exact ⟨t2, st t2 a1, b1⟩
theorem nc_runS {index maxL n : Nat} {y : MethodName} {bytes : ByteArray} {ret : Option FieldType} {rm : Room} {As : List Value} {mi' : nc_Mem} {rv : Option Value} {st0 : List Value} {K' : nc_K} {mc ms : Nat} (cx : nc_C p s m args c cc nL own G) (hw : nc_W G K mi H locs) (hl : nc_LS own index y bytes maxL ret n) (hM : nc_M l y bytes maxL ret rm mc ms G K K' As mi mi' rv)
    (hn : As.length = n) (hsz : ls.size = nL) (hst : st0 = As.reverse ++ rest) (hW : (rest.map fun v => v.category).sum ≤ 8) (hR : rm.cells = mc ∧ rm.slots = ms ∧ rm.frames + 1 ≤ R.frames ∧ 8 + (maxL + 11) + rm.locals ≤ R.locals) (hcs : cells + mc ≤ R.cells ∧ slots + ms ≤ R.slots) (hdg : decode cc pc = .ok (.invokestatic index, 3))
    (kk : ∀ (H1 : Heap) (locs1 : List Loc), nc_W G K' mi' H1 locs1 → W p l e R s m args below meth c H1 locs1 (cells + mc) (slots + ms) Q (F0 m (pc + 3) ls (rv.toList ++ rest))) : W p l e R s m args below meth c H locs cells slots Q (F0 m pc ls st0) := by
  obtain ⟨hx, hb, hml, hown, hts, hE⟩ := cx
  have hK := hE.1
  have hrun := va_runS (Ts := nc_U) (g := F0 m pc ls st0) (locs := locs) (cells := cells) (slots := slots) (below := below) (meth := meth) (rest := rest) (H := H) (e := e) ⟨hx, hb, hml, hown, hts⟩ hM (va_cwS (R := R) n hts (nc_LS_good hl) rfl hR.1 hR.2.1 hl.2.2.2.2 ⟨hR.2.2.1, hR.2.2.2⟩)
    ⟨nc_blind G K mi _, fun U hU hW => ⟨rfl, by rw [hU]; exact nc_W_locs hw (fun _ h => by cases h), nc_E_warm hW hE⟩⟩
    rfl hn hsz hst (lv_room hW) hdg hcs
  intro T0 hT X
  obtain ⟨v, st₀, t, T', L, h0, X', hL, e1, e2, ⟨hv, hW'⟩, st⟩ := hrun T0 hT X
  cases hv
  obtain ⟨t2, a1, b1⟩ := kk T'.heap (locs ++ L) (nc_W_locs (by rw [e1]; exact hW') (fun q hq => by
    rcases List.mem_append.mp hq with h | h
    · exact hw.2.2.2.2.2.2 q h
    · exact hL q h)) T' rfl X'
  exact ⟨t2, st t2 a1, b1⟩
-- entry and ends
theorem nc_start {av : List Value} {n : Nat} (h : (lg_sl av).length ≤ n) (kk : ∀ ls, lv_has ls n (lv_args 0 av) → W p l e R s m args below meth c H locs cells slots Q (F0 m 0 ls [])) : W p l e R s m args below meth c H locs cells slots Q (entryFrame m av.toArray n) := by
  have hl := lv_entry av (n := n) h
  rw [lg_entry_eq]
  exact kk _ hl
theorem nc_enter {y : MethodName} {maxL : Nat} {ret : Option FieldType} {rm : Room} {s₁ : State} {av : List Value} (Bd : BodyLoose p l y (headSpec (Cond.code y cc maxL ret :: nc_U) rm) cc maxL ret e s m args below meth c s₁) (hml : c.maxLocals = maxL) (hv : nc_Pc G K mi av args s) : args = av.toArray ∧ nc_C p s m args c cc maxL y.cls G ∧ nc_W G K mi s.heap [] ∧ meth.sig.returnType = ret ∧ meth.locks = false := by
  have hts := atoms_spec (ws := Cond.code y cc maxL ret :: nc_U) Bd.pre
  exact ⟨hv.1, ⟨Bd.exec, Bd.bytes, hml, findClass_of_methodNamed Bd.named, fun w h => hts w (List.mem_cons_of_mem _ h), hv.2.2⟩, hv.2.1, Bd.returns, Bd.notSynchronized⟩
theorem nc_iret {v : Int32} {ty : FieldType} {mi' : nc_Mem} {rv : Option Value} (cx : nc_C p s m args c cc nL own G) (hw : nc_W G K mi H locs) (hr : meth.sig.returnType = some ty) (hlocks : meth.locks = false) (hn : narrow ty (.int v) = .int v) (hq : rv = some (.int v) ∧ mi' = mi) (hdg : decode cc pc = .ok (.ireturn, 1)) : W p l e R s m args below meth c H locs cells slots (MQ below (nc_Qc G K mi' rv) args s cells slots (fun q => G.2.2.1 ≤ q)) (F0 m pc ls [.int v]) := by
  obtain ⟨rfl, rfl⟩ := hq
  exact W.zret cx.1 cx.2.1 hr hn (fun t ht _ => ⟨rfl, by rw [ht]; exact nc_W_locs hw (fun _ h => by cases h)⟩) hw.2.2.2.2.2.2 hdg hlocks
theorem nc_vret {mi' : nc_Mem} {rv : Option Value} (cx : nc_C p s m args c cc nL own G) (hw : nc_W G K mi H locs) (hr : meth.sig.returnType = none) (hlocks : meth.locks = false) (hq : rv = none ∧ mi' = mi) (hdg : decode cc pc = .ok (.return_, 1)) : W p l e R s m args below meth c H locs cells slots (MQ below (nc_Qc G K mi' rv) args s cells slots (fun q => G.2.2.1 ≤ q)) (F0 m pc ls []) := by
  obtain ⟨rfl, rfl⟩ := hq
  exact W.vret cx.1 cx.2.1 hr (fun t ht _ => ⟨rfl, by rw [ht]; exact nc_W_locs hw (fun _ h => by cases h)⟩) hw.2.2.2.2.2.2 hdg hlocks
end NCR
