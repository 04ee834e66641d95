-- LIFTING: a method's bytecode does what a plain program over the ints of the world does
theorem nc_ix {α : Type} {i : Int32} {n : Nat} {f : Nat → Option α} {r : α} (h : nc_at i n f = some r) : ∃ j : Nat, j = i.toNatClampNeg ∧ vp_in i n ∧ j < n ∧ f j = some r := by
  obtain ⟨h1, h2⟩ := nc_at_of h
  exact ⟨_, rfl, h1, Nat.not_le.mp fun q => h1 (Or.inr q), h2⟩
theorem nc_jn_of {α β : Type} {e : α} {f : α → β} {r : β} (h : nc_let e f = r) : ∃ k, k = e ∧ f k = r := ⟨e, rfl, h⟩
def nc_loop {κ : Type} (z : κ) (B : κ → κ) : Nat → κ
  | 0 => z
  | n + 1 => B (nc_loop z B n)
theorem nc_loop_w {κ : Type} {z : κ} {B : κ → κ} (P : κ → Prop) (h0 : P z) (hs : ∀ k, P k → P (B k)) : ∀ n, P (nc_loop z B n)
  | 0 => h0
  | n + 1 => hs _ (nc_loop_w P h0 hs n)
theorem nc_lit {i : Int32} {n j : Nat} (hj : i.toNatClampNeg = j) (h0 : ¬ i < 0) (h : j < n) : vp_in i n := by
  intro q
  rcases q with q | q
  · exact h0 q
  · omega
section NCL
variable {p : Program} {l : Launch} {e : Env} {R : Room} {s : State} {m : MethodId} {args : Array Value} {below : List Frame} {meth : Method} {c : Code} {H : Heap} {locs : List Loc} {cells slots : Nat} {Q : State → Prop}
variable {cc : ByteArray} {pc nL : Nat} {ls : Array Slot} {rest : List Value} {own : String} {G : nc_G} {K : nc_K} {mi : nc_Mem}
theorem nc_ild (cx : nc_C p s m args c cc nL own G) (hw : nc_W G K mi H locs) {a n j : Nat} {i : Int32} (ha : nc_Is G K a (9, n)) (hin : vp_in i n) (hj : j = i.toNatClampNeg) (hdg : decode cc pc = .ok (.iaload, 1))
    (kk : W p l e R s m args below meth c H locs cells slots Q (F0 m (pc + 1) ls (.int (mi a j) :: rest))) : W p l e R s m args below meth c H locs cells slots Q (F0 m pc ls (.int i :: .ref a :: rest)) := by
  subst hj
  exact nc_iald cx hw ha hin hdg kk
theorem nc_ist (cx : nc_C p s m args c cc nL own G) (hw : nc_W G K mi H locs) {a n j : Nat} {i v : Int32} (ha : nc_Is G K a (9, n)) (hin : vp_in i n) (hj : j = i.toNatClampNeg) (hdg : decode cc pc = .ok (.iastore, 1))
    (kk : ∀ (mi1 : nc_Mem) (H1 : Heap) (locs1 : List Loc), mi1 = nc_up mi a j v → nc_W G K mi1 H1 locs1 → W p l e R s m args below meth c H1 locs1 cells slots Q (F0 m (pc + 1) ls rest)) : W p l e R s m args below meth c H locs cells slots Q (F0 m pc ls (.int v :: .int i :: .ref a :: rest)) := by
  subst hj
  exact nc_iast cx hw ha hin hdg kk
theorem nc_ald (cx : nc_C p s m args c cc nL own G) (hw : nc_W G K mi H locs) {a n b ki j : Nat} {i : Int32} (hki : 9 < ki ∧ ki < 14) (ha : nc_Is G K a (ki, n)) (hin : vp_in i n) (hj : j = i.toNatClampNeg) {kn : Nat × Nat} (hmr : K.2.2 a j = b) (hb : nc_Is G K b kn) (hdg : decode cc pc = .ok (.aaload, 1))
    (kk : W p l e R s m args below meth c H locs cells slots Q (F0 m (pc + 1) ls (.ref b :: rest))) : W p l e R s m args below meth c H locs cells slots Q (F0 m pc ls (.int i :: .ref a :: rest)) := by
  subst hj
  exact nc_aald cx hw hki ha hin hmr hb hdg kk
theorem nc_callVi {index maxL n b ci N : Nat} {C : String} {T : u_T} {y : MethodName} {bytes : ByteArray} {ret : Option FieldType} {rm : Room} {As : List Value} {mi' : nc_Mem} {r : Int32} {st0 : List Value} (cx : nc_C p s m args c cc nL own G) (hw : nc_W G K mi H locs) (hl : nc_LV own index C y bytes maxL ret n) (hM : nc_M l y bytes maxL ret rm 0 0 G K K (.ref b :: As) mi mi' (some (.int r))) (hc : nc_cl[ci]? = some (C, T, N)) (ha : nc_Is G K b (ci, N))
    (hn : As.length = n) (hsz : ls.size = nL) (hst : st0 = As.reverse ++ .ref b :: rest) (hW : (rest.map fun v => v.category).sum ≤ 8) (hR : rm.cells = 0 ∧ rm.slots = 0 ∧ rm.frames + 1 ≤ R.frames ∧ 8 + (maxL + 11) + rm.locals ≤ R.locals) (hdg : decode cc pc = .ok (.invokevirtual index, 3))
    (kk : ∀ (H1 : Heap) (locs1 : List Loc), nc_W G K mi' H1 locs1 → W p l e R s m args below meth c H1 locs1 0 0 Q (F0 m (pc + 3) ls (.int r :: rest))) : W p l e R s m args below meth c H locs 0 0 Q (F0 m pc ls st0) :=
  nc_runV cx hw hl hM hc ha hn hsz hst hW hR ⟨Nat.zero_le _, Nat.zero_le _⟩ hdg kk
theorem nc_callVv {index maxL n b ci N : Nat} {C : String} {T : u_T} {y : MethodName} {bytes : ByteArray} {ret : Option FieldType} {rm : Room} {As : List Value} {mi' : nc_Mem} {st0 : List Value} (cx : nc_C p s m args c cc nL own G) (hw : nc_W G K mi H locs) (hl : nc_LV own index C y bytes maxL ret n) (hM : nc_M l y bytes maxL ret rm 0 0 G K K (.ref b :: As) mi mi' none) (hc : nc_cl[ci]? = some (C, T, N)) (ha : nc_Is G K b (ci, N))
    (hn : As.length = n) (hsz : ls.size = nL) (hst : st0 = As.reverse ++ .ref b :: rest) (hW : (rest.map fun v => v.category).sum ≤ 8) (hR : rm.cells = 0 ∧ rm.slots = 0 ∧ rm.frames + 1 ≤ R.frames ∧ 8 + (maxL + 11) + rm.locals ≤ R.locals) (hdg : decode cc pc = .ok (.invokevirtual index, 3))
    (kk : ∀ (H1 : Heap) (locs1 : List Loc), nc_W G K mi' H1 locs1 → W p l e R s m args below meth c H1 locs1 0 0 Q (F0 m (pc + 3) ls rest)) : W p l e R s m args below meth c H locs 0 0 Q (F0 m pc ls st0) :=
  nc_runV cx hw hl hM hc ha hn hsz hst hW hR ⟨Nat.zero_le _, Nat.zero_le _⟩ hdg kk
theorem nc_callSi {index maxL n : Nat} {y : MethodName} {bytes : ByteArray} {ret : Option FieldType} {rm : Room} {As : List Value} {mi' : nc_Mem} {r : Int32} {st0 : List Value} (cx : nc_C p s m args c cc nL own G) (hw : nc_W G K mi H locs) (hl : nc_LS own index y bytes maxL ret n) (hM : nc_M l y bytes maxL ret rm 0 0 G K K As mi mi' (some (.int r)))
    (hn : As.length = n) (hsz : ls.size = nL) (hst : st0 = As.reverse ++ rest) (hW : (rest.map fun v => v.category).sum ≤ 8) (hR : rm.cells = 0 ∧ rm.slots = 0 ∧ rm.frames + 1 ≤ R.frames ∧ 8 + (maxL + 11) + rm.locals ≤ R.locals) (hdg : decode cc pc = .ok (.invokestatic index, 3))
    (kk : ∀ (H1 : Heap) (locs1 : List Loc), nc_W G K mi' H1 locs1 → W p l e R s m args below meth c H1 locs1 0 0 Q (F0 m (pc + 3) ls (.int r :: rest))) : W p l e R s m args below meth c H locs 0 0 Q (F0 m pc ls st0) :=
  nc_runS cx hw hl hM hn hsz hst hW hR ⟨Nat.zero_le _, Nat.zero_le _⟩ hdg kk
theorem nc_callSv {index maxL n : Nat} {y : MethodName} {bytes : ByteArray} {ret : Option FieldType} {rm : Room} {As : List Value} {mi' : nc_Mem} {st0 : List Value} (cx : nc_C p s m args c cc nL own G) (hw : nc_W G K mi H locs) (hl : nc_LS own index y bytes maxL ret n) (hM : nc_M l y bytes maxL ret rm 0 0 G K K As mi mi' none)
    (hn : As.length = n) (hsz : ls.size = nL) (hst : st0 = As.reverse ++ rest) (hW : (rest.map fun v => v.category).sum ≤ 8) (hR : rm.cells = 0 ∧ rm.slots = 0 ∧ rm.frames + 1 ≤ R.frames ∧ 8 + (maxL + 11) + rm.locals ≤ R.locals) (hdg : decode cc pc = .ok (.invokestatic index, 3))
    (kk : ∀ (H1 : Heap) (locs1 : List Loc), nc_W G K mi' H1 locs1 → W p l e R s m args below meth c H1 locs1 0 0 Q (F0 m (pc + 3) ls rest)) : W p l e R s m args below meth c H locs 0 0 Q (F0 m pc ls st0) :=
  nc_runS cx hw hl hM hn hsz hst hW hR ⟨Nat.zero_le _, Nat.zero_le _⟩ hdg kk
theorem nc_w_mst : Cond.static Lib.Math.max.name ∈ nc_U ∧ Cond.initialized "java/lang/Math" ∈ nc_U ∧ Cond.code Lib.Math.max.name Lib.Math.max.code 2 (some .int) ∈ nc_U := ⟨nc_w 495 (by decide +kernel) rfl, nc_w 73 (by decide +kernel) rfl, nc_w 496 (by decide +kernel) rfl⟩
theorem nc_w_nst : Cond.static Lib.Math.min.name ∈ nc_U ∧ Cond.initialized "java/lang/Math" ∈ nc_U ∧ Cond.code Lib.Math.min.name Lib.Math.min.code 2 (some .int) ∈ nc_U := ⟨nc_w 204 (by decide +kernel) rfl, nc_w 73 (by decide +kernel) rfl, nc_w 205 (by decide +kernel) rfl⟩
theorem nc_mx {index : Nat} {x y : Int32} (cx : nc_C p s m args c cc nL own G) (hsz : ls.size = nL) (hm : Cond.methodLink own index Lib.Math.max.name ∈ nc_U) (hR : 1 ≤ R.frames ∧ (rest.map fun v => v.category).sum + 13 ≤ R.locals) (hdg : decode cc pc = .ok (.invokestatic index, 3))
    (kk : W p l e R s m args below meth c H locs 0 0 Q (F0 m (pc + 3) ls (.int (if x < y then y else x) :: rest))) : W p l e R s m args below meth c H locs 0 0 Q (F0 m pc ls (.int y :: .int x :: rest)) := by
  obtain ⟨hx, hb, hml, hown, hts, hE⟩ := cx
  have hK := hE.1
  exact va_mmax hx hb (hml.trans hsz.symm) hown (hts _ hm) (hts _ nc_w_mst.1) (hts _ nc_w_mst.2.1) (hts _ nc_w_mst.2.2) hR.1 hR.2 (Nat.zero_le _) (Nat.zero_le _) hdg kk
theorem nc_mn {index : Nat} {x y : Int32} (cx : nc_C p s m args c cc nL own G) (hsz : ls.size = nL) (hm : Cond.methodLink own index Lib.Math.min.name ∈ nc_U) (hR : 1 ≤ R.frames ∧ (rest.map fun v => v.category).sum + 13 ≤ R.locals) (hdg : decode cc pc = .ok (.invokestatic index, 3))
    (kk : W p l e R s m args below meth c H locs 0 0 Q (F0 m (pc + 3) ls (.int (if y < x then y else x) :: rest))) : W p l e R s m args below meth c H locs 0 0 Q (F0 m pc ls (.int y :: .int x :: rest)) := by
  obtain ⟨hx, hb, hml, hown, hts, hE⟩ := cx
  have hK := hE.1
  exact va_mmin hx hb (hml.trans hsz.symm) hown (hts _ hm) (hts _ nc_w_nst.1) (hts _ nc_w_nst.2.1) (hts _ nc_w_nst.2.2) hR.1 hR.2 (Nat.zero_le _) (Nat.zero_le _) hdg kk
-- ends
def nc_Ri (p : Program) (l : Launch) (e : Env) (R : Room) (s : State) (m : MethodId) (args : Array Value) (below : List Frame) (meth : Method) (c : Code) (cc : ByteArray) (Q : State → Prop) (G : nc_G) (K : nc_K) (ty : FieldType) (mi' : nc_Mem) (r : Int32) : Prop :=
  ∀ (pc : Nat) (H : Heap) (locs : List Loc) (ls : Array Slot), narrow ty (.int r) = .int r → nc_W G K mi' H locs → decode cc pc = .ok (.ireturn, 1) → W p l e R s m args below meth c H locs 0 0 Q (F0 m pc ls [.int r])
def nc_Rv (p : Program) (l : Launch) (e : Env) (R : Room) (s : State) (m : MethodId) (args : Array Value) (below : List Frame) (meth : Method) (c : Code) (cc : ByteArray) (Q : State → Prop) (G : nc_G) (K : nc_K) (mi' : nc_Mem) : Prop :=
  ∀ (pc : Nat) (H : Heap) (locs : List Loc) (ls : Array Slot), nc_W G K mi' H locs → decode cc pc = .ok (.return_, 1) → W p l e R s m args below meth c H locs 0 0 Q (F0 m pc ls [])
theorem nc_rtp {ty : FieldType} {v r : Int32} (hret : nc_Ri p l e R s m args below meth c cc Q G K ty mi r) (hf : v = r) (hn : narrow ty (.int v) = .int v) (hw : nc_W G K mi H locs) (hdg : decode cc pc = .ok (.ireturn, 1)) : W p l e R s m args below meth c H locs 0 0 Q (F0 m pc ls [.int v]) := by
  subst hf
  exact hret _ _ _ _ hn hw hdg
theorem nc_rpp {ty : FieldType} {v r : Int32} (hret : nc_Ri p l e R s m args below meth c cc Q G K ty mi r) (hf : some v = some r) (hn : narrow ty (.int v) = .int v) (hw : nc_W G K mi H locs) (hdg : decode cc pc = .ok (.ireturn, 1)) : W p l e R s m args below meth c H locs 0 0 Q (F0 m pc ls [.int v]) :=
  nc_rtp hret (Option.some.inj hf) hn hw hdg
theorem nc_rtm {ty : FieldType} {v : Int32} {r : nc_Mem × Int32} (hret : nc_Ri p l e R s m args below meth c cc Q G K ty r.1 r.2) (hf : (mi, v) = r) (hn : narrow ty (.int v) = .int v) (hw : nc_W G K mi H locs) (hdg : decode cc pc = .ok (.ireturn, 1)) : W p l e R s m args below meth c H locs 0 0 Q (F0 m pc ls [.int v]) := by
  subst hf
  exact hret _ _ _ _ hn hw hdg
theorem nc_rpm {ty : FieldType} {v : Int32} {r : nc_Mem × Int32} (hret : nc_Ri p l e R s m args below meth c cc Q G K ty r.1 r.2) (hf : some (mi, v) = some r) (hn : narrow ty (.int v) = .int v) (hw : nc_W G K mi H locs) (hdg : decode cc pc = .ok (.ireturn, 1)) : W p l e R s m args below meth c H locs 0 0 Q (F0 m pc ls [.int v]) :=
  nc_rtm hret (Option.some.inj hf) hn hw hdg
theorem nc_vtm {r : nc_Mem} (hret : nc_Rv p l e R s m args below meth c cc Q G K r) (hf : mi = r) (hw : nc_W G K mi H locs) (hdg : decode cc pc = .ok (.return_, 1)) : W p l e R s m args below meth c H locs 0 0 Q (F0 m pc ls []) := by
  subst hf
  exact hret _ _ _ _ hw hdg
theorem nc_vpm {r : nc_Mem} (hret : nc_Rv p l e R s m args below meth c cc Q G K r) (hf : some mi = some r) (hw : nc_W G K mi H locs) (hdg : decode cc pc = .ok (.return_, 1)) : W p l e R s m args below meth c H locs 0 0 Q (F0 m pc ls []) :=
  nc_vtm hret (Option.some.inj hf) hw hdg
end NCL
theorem nc_meet_i {l : Launch} {y : MethodName} {cc : ByteArray} {maxL : Nat} {ty : FieldType} {rm : Room} {G : nc_G} {K : nc_K} {av : List Value} {mi mi' : nc_Mem} {r : Int32} (hy : plainName y.cls = true) (hn : (lg_sl av).length ≤ maxL)
    (body : ∀ (p : Program) (e : Env) (s : State) (m : MethodId) (args : Array Value) (below : List Frame) (meth : Method) (c : Code) (Q : State → Prop) (H : Heap) (locs : List Loc) (ls : Array Slot), nc_C p s m args c cc maxL y.cls G → nc_Ri p l e rm s m args below meth c cc Q G K ty mi' r → nc_W G K mi H locs → lv_has ls maxL (lv_args 0 av) → W p l e rm s m args below meth c H locs 0 0 Q (F0 m 0 ls [])) :
    nc_M l y cc maxL (some ty) rm 0 0 G K K av mi mi' (some (.int r)) := by
  refine Met.ofW (cc := cc) (maxL := maxL) (ret := some ty) hy rfl ?_
  intro p e s m args below meth c s₁ Bd hml hv
  obtain ⟨rfl, cx, hw, hr, hlocks⟩ := nc_enter Bd hml hv
  refine nc_start hn (fun ls hl => ?_)
  exact body p e s m _ below meth c _ _ _ ls cx (fun pc H locs ls hnr hw hdg => nc_iret cx hw hr hlocks hnr ⟨rfl, rfl⟩ hdg) hw hl
theorem nc_meet_v {l : Launch} {y : MethodName} {cc : ByteArray} {maxL : Nat} {rm : Room} {G : nc_G} {K : nc_K} {av : List Value} {mi mi' : nc_Mem} (hy : plainName y.cls = true) (hn : (lg_sl av).length ≤ maxL)
    (body : ∀ (p : Program) (e : Env) (s : State) (m : MethodId) (args : Array Value) (below : List Frame) (meth : Method) (c : Code) (Q : State → Prop) (H : Heap) (locs : List Loc) (ls : Array Slot), nc_C p s m args c cc maxL y.cls G → nc_Rv p l e rm s m args below meth c cc Q G K mi' → nc_W G K mi H locs → lv_has ls maxL (lv_args 0 av) → W p l e rm s m args below meth c H locs 0 0 Q (F0 m 0 ls [])) :
    nc_M l y cc maxL none rm 0 0 G K K av mi mi' none := by
  refine Met.ofW (cc := cc) (maxL := maxL) (ret := none) hy rfl ?_
  intro p e s m args below meth c s₁ Bd hml hv
  obtain ⟨rfl, cx, hw, hr, hlocks⟩ := nc_enter Bd hml hv
  refine nc_start hn (fun ls hl => ?_)
  exact body p e s m _ below meth c _ _ _ ls cx (fun pc H locs ls hw hdg => nc_vret cx hw hr hlocks ⟨rfl, rfl⟩ hdg) hw hl
