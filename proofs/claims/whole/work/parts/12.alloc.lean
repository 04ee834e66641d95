-- MAKING CELLS
def nc_kn (K : nc_K) (kn : Nat × Nat) : nc_K := (K.1 + 1, (fun a => if a = K.1 then kn else K.2.1 a), K.2.2)
def nc_kr (K : nc_K) (a k v : Nat) : nc_K := (K.1, K.2.1, fun a' k' => if a' = a ∧ k' = k then v else K.2.2 a' k')
def nc_kg (K : nc_K) (n k : Nat) : nc_K := (K.1 + 1 + n, (fun a => if a = K.1 then (13, n) else if K.1 < a ∧ a < K.1 + 1 + n then (9, k) else K.2.1 a), fun a' k' => if a' = K.1 ∧ k' < n then K.1 + 1 + k' else K.2.2 a' k')
theorem nc_cell_cg {G : nc_G} {a : Nat} {kn : Nat × Nat} {fi fi' : Nat → Int32} {fr fr' : Nat → Nat} {H : Heap} (h : nc_cell G a kn fi fr H) (h1 : fi = fi') (h2 : fr = fr') : nc_cell G a kn fi' fr' H := by subst h1; subst h2; exact h
theorem nc_W_push {G : nc_G} {K : nc_K} {mi : nc_Mem} {H H1 : Heap} {locs : List Loc} (hw : nc_W G K mi H locs) {kn : Nat × Nat} (hz : H1.size = K.1 + 1) (ho : ∀ q, q < K.1 → H1[q]? = H[q]?) (hc : nc_cell G K.1 kn (fun _ => 0) (fun _ => 0) H1) : nc_W G (nc_kn K kn) mi H1 locs := by
  obtain ⟨h1, h2, h3, h4, h5, h6, h7⟩ := hw
  refine ⟨hz, h2, Nat.le_succ_of_le h3, fun q hq => ?_, fun b hb1 hb2 => ?_, fun b j hb => ?_, h7⟩
  · rw [ho q (by omega)]; exact h4 q hq
  · show nc_cell G b (if b = K.1 then kn else K.2.1 b) (mi b) (K.2.2 b) H1
    by_cases e : b = K.1
    · subst e
      rw [if_pos rfl]
      exact nc_cell_cg hc (funext fun j => (h6 K.1 j (Nat.le_refl _)).1.symm) (funext fun j => (h6 K.1 j (Nat.le_refl _)).2.symm)
    · rw [if_neg e]
      have hb3 : b < K.1 := by have : b < K.1 + 1 := hb2; omega
      exact nc_cell_kept (h5 b hb1 hb3) (ho b hb3)
  · have : K.1 + 1 ≤ b := hb
    exact h6 b j (by omega)
theorem nc_defs {ci : Nat} {q : vw_C} (h : nc_cl[ci]? = some q) : ∃ ty0 : Nat → FieldType, (∀ k, k < q.2.2 → parseFieldDescriptor (q.2.1 k).2.2.1 = some (ty0 k)) ∧ ∀ k, k < q.2.2 → defaultValue (ty0 k) = nc_V ci (fun _ => 0) (fun _ => 0) k := by
  match ci, h with
  | 0, h => cases h; exact ⟨_, tyX0_ok, by decide +kernel⟩
  | 1, h => cases h; exact ⟨_, tyX1_ok, by decide +kernel⟩
  | 2, h => cases h; exact ⟨_, tyX2_ok, by decide +kernel⟩
  | 3, h => cases h; exact ⟨_, tyX3_ok, by decide +kernel⟩
  | 4, h => cases h; exact ⟨_, tyX4_ok, by decide +kernel⟩
  | 5, h => cases h; exact ⟨_, tyX5_ok, by decide +kernel⟩
  | 6, h => cases h; exact ⟨_, tyX6_ok, by decide +kernel⟩
  | 7, h => cases h; exact ⟨_, tyX7_ok, by decide +kernel⟩
  | 8, h => cases h; exact ⟨_, tyX8_ok, by decide +kernel⟩
  | n + 9, h => simp [nc_cl] at h
section NCN
variable {p : Program} {l : Launch} {e : Env} {R : Room} {s : State} {m : MethodId} {args : Array Value} {below : List Frame} {meth : Method} {c : Code} {H : Heap} {locs : List Loc} {cells slots : Nat} {Q : State → Prop}
variable {cc : ByteArray} {pc nL : Nat} {ls : Array Slot} {rest : List Value} {own : String} {G : nc_G} {K : nc_K} {mi : nc_Mem}
theorem nc_new (cx : nc_C p s m args c cc nL own G) (hw : nc_W G K mi H locs) {ci N index : Nat} {C : String} {T : u_T} (hc : nc_cl[ci]? = some (C, T, N)) (w1 : Cond.classLink own index C ∈ nc_U) (w2 : Cond.instantiable C N ∈ nc_U) (w3 : Cond.initialized C ∈ nc_U) (hR : cells + 1 ≤ R.cells ∧ slots + N ≤ R.slots) (hdg : decode cc pc = .ok (.new index, 3))
    (kk : ∀ (K1 : nc_K) (H1 : Heap), K1 = nc_kn K (ci, N) → nc_W G K1 mi H1 locs → W p l e R s m args below meth c H1 locs (cells + 1) (slots + N) Q (F0 m (pc + 3) ls (.ref K.1 :: rest))) : W p l e R s m args below meth c H locs cells slots Q (F0 m pc ls rest) := by
  obtain ⟨hx, hb, hml, hown, hts, hE⟩ := cx
  have hK := hE.1
  have hKn := hK.1 ci _ hc
  obtain ⟨ty0, hty, hdf⟩ := nc_defs hc
  refine W.newcK hx hb hown (hts _ w1) (hts _ w2) (hts _ w3) rfl hdg hR.1 hR.2 hKn.2.1 hw.1 fun H1 kC hkC e1 z1 o1 => ?_
  exact kk _ H1 rfl (nc_W_push hw z1 o1 ((nc_cell_obj (nc_cl_lt hc)).mpr ((u_born ty0 hts (nc_lay hc) hKn hkC e1 hty).to hdf)))
theorem nc_nint (cx : nc_C p s m args c cc nL own G) (hw : nc_W G K mi H locs) {n : Int32} {N : Nat} (w1 : Cond.arrayClass .int ∈ nc_U) (hn : ¬ n < 0) (hN : n.toNatClampNeg = N) (hby : N * 4 ≤ 536870912) (hR : cells + 1 ≤ R.cells ∧ slots + N ≤ R.slots) (hdg : decode cc pc = .ok (.newarray .int, 2))
    (kk : ∀ (K1 : nc_K) (H1 : Heap), K1 = nc_kn K (9, N) → nc_W G K1 mi H1 locs → W p l e R s m args below meth c H1 locs (cells + 1) (slots + N) Q (F0 m (pc + 2) ls (.ref K.1 :: rest))) : W p l e R s m args below meth c H locs cells slots Q (F0 m pc ls (.int n :: rest)) := by
  obtain ⟨hx, hb, hml, hown, hts, hE⟩ := cx
  have hK := hE.1
  refine va_newaK (atype := .int) hx hb (hts _ w1) rfl hdg rfl hn hN hby hR.1 hR.2 hw.1 fun H1 cA e1 z1 o1 hAr hNm => ?_
  have hca : some (G.2.1 9) = some cA := (show s.vm.findClass ("[" ++ FieldType.int.toString) = some (G.2.1 9) from (hK.2 0 _ rfl).2).symm.trans hNm
  cases hca
  exact kk _ H1 rfl (nc_W_push hw z1 o1 (nc_cell_int.mpr e1))
theorem nc_nref (cx : nc_C p s m args c cc nL own G) (hw : nc_W G K mi H locs) {n : Int32} {N index ki t0 : Nat} {C : String} (hki : 9 < ki) (w1 : Cond.classLink own index C ∈ nc_U) (hC : C ∈ [RX3, RX4, RX6]) (ht : (nc_tys G.2.1)[t0]? = some (G.2.1 ki, .object C)) (hn : ¬ n < 0) (hN : n.toNatClampNeg = N) (hby : N * 4 ≤ 536870912) (hR : cells + 1 ≤ R.cells ∧ slots + N ≤ R.slots) (hdg : decode cc pc = .ok (.anewarray index, 3))
    (kk : ∀ (K1 : nc_K) (H1 : Heap), K1 = nc_kn K (ki, N) → nc_W G K1 mi H1 locs → W p l e R s m args below meth c H1 locs (cells + 1) (slots + N) Q (F0 m (pc + 3) ls (.ref K.1 :: rest))) : W p l e R s m args below meth c H locs cells slots Q (F0 m pc ls (.int n :: rest)) := by
  obtain ⟨hx, hb, hml, hown, hts, hE⟩ := cx
  have hK := hE.1
  subst hN
  refine W.anew hx hb hown (hts _ w1) (va_AO.use (hE.2.2.2.2.2.2.2.1 C hC)) rfl hdg rfl hn hby hR.1 hR.2 fun cA kA comp h1 h2 h3 h4 => ?_
  obtain ⟨kA', comp', g1, g2, g3, g4⟩ := (hK.2 t0 _ ht).2
  have hca : some (G.2.1 ki) = some cA := g4.symm.trans h1
  cases hca
  have hsz : H.size = K.1 := hw.1
  rw [hsz]
  refine kk _ _ rfl (nc_W_push hw ?_ ?_ ((nc_cell_ref hki).mpr ?_))
  · simp [hsz]
  · intro q hq
    rw [Array.getElem?_push, if_neg (by omega)]
  · rw [← hsz, ← arrV_new]
    simp
    exact Or.inr rfl
theorem nc_W_putr {G : nc_G} {K : nc_K} {mi : nc_Mem} {H H1 : Heap} {locs : List Loc} (hw : nc_W G K mi H locs) {a k i v : Nat} {kn : Nat × Nat} (ha : nc_Is G K a kn) (hz : H1.size = H.size) (ho : ∀ q, q ≠ a → H1[q]? = H[q]?) (hc : nc_cell G a kn (mi a) ((nc_kr K a k v).2.2 a) H1) : nc_W G (nc_kr K a k v) mi H1 (locs ++ [⟨a, i⟩]) := by
  obtain ⟨h1, h2, h3, h4, h5, h6, h7⟩ := hw
  have hoth : ∀ b, b ≠ a → (nc_kr K a k v).2.2 b = K.2.2 b := fun b hb => by funext j; simp [nc_kr, hb]
  refine ⟨hz.trans h1, h2, h3, fun q hq => ?_, fun b hb1 hb2 => ?_, fun b j hb => ?_, fun q hq => ?_⟩
  · rw [ho q (by have := ha.1; omega)]; exact h4 q hq
  · show nc_cell G b (K.2.1 b) (mi b) ((nc_kr K a k v).2.2 b) H1
    by_cases e : b = a
    · subst e
      rw [ha.2.2]; exact hc
    · rw [hoth b e]
      exact nc_cell_kept (h5 b hb1 hb2) (ho b e)
  · have hba : b ≠ a := by have := ha.2.1; have : K.1 ≤ b := hb; omega
    rw [hoth b hba]; exact h6 b j hb
  · rcases List.mem_append.mp hq with h | h
    · exact h7 q h
    · rw [List.mem_singleton.mp h]; exact ha.1
theorem nc_V_kr {K : nc_K} {a k v ci j : Nat} {fi : Nat → Int32} (hr : nc_isR ci k = true) : updV (nc_V ci fi (K.2.2 a)) k (nc_rv v) j = nc_V ci fi ((nc_kr K a k v).2.2 a) j := by
  by_cases hj : j = k
  · subst hj
    simp [updV, nc_V, hr, nc_kr]
  · simp [updV, nc_V, hj, nc_kr]
/-- putfield of a reference that is not null: a final field in a constructor -/
theorem nc_putF (cx : nc_C p s m args c cc nL own G) (hw : nc_W G K mi H locs) {ci k N index a v : Nat} {C : String} {T : u_T} {ty : FieldType} (hc : nc_cl[ci]? = some (C, T, N)) (hk : k < N) (hr : nc_isR ci k = true) (hfin : (T k).2.2.2 = true) (hdecl : (T k).1 = own) (hin : meth.name = "<init>") (hd : parseFieldDescriptor (T k).2.2.1 = some ty) (hn : narrow ty (.ref v) = .ref v) (hfit : fits ty (.ref v) = true) (hm : Cond.fieldLink own index (T k).1 (T k).2.1 (T k).2.2.1 ∈ nc_U) (ha : nc_Is G K a (ci, N)) (hv : 0 < v) (hdg : decode cc pc = .ok (.putfield index, 3))
    (kk : ∀ (K1 : nc_K) (H1 : Heap) (locs1 : List Loc), K1 = nc_kr K a k v → nc_W G K1 mi H1 locs1 → W p l e R s m args below meth c H1 locs1 cells slots Q (F0 m (pc + 3) ls rest)) : W p l e R s m args below meth c H locs cells slots Q (F0 m pc ls (.ref v :: .ref a :: rest)) := by
  obtain ⟨hx, hb, hml, hown, hts, hE⟩ := cx
  have hK := hE.1
  obtain ⟨ty0, hty⟩ := nc_types hc
  have hap := va_apart (own := own) hts (nc_lay hc) ty0 hty (nc_names hc) hK hc
  obtain ⟨cell, q1, q2, q3, q4⟩ := (nc_cell_obj (nc_cl_lt hc)).mp (nc_at_cell hw ha)
  obtain ⟨hS, hfc, kC, hkC, hkind⟩ := hK.1 ci _ hc
  obtain ⟨cf, kf, fi, f, hi, hsl⟩ := hS k hk
  have hlay := hts _ (nc_lay hc _ (u_in_lay hk))
  unfold u_lay at hlay
  rw [if_pos hfin] at hlay
  have hst := (u_facts hfc hkC (u_lays hts (nc_lay hc) hk) hi).1
  have hcf : m.cls = cf := by
    obtain ⟨_, _, c', _, _, _, -, -, hf', -, -, -, hown2, -⟩ := Cond.laysFinal_spec hlay
    have e1 : c' = cf := by have := hi.symm.trans hf'; simp at this; exact this.1.symm
    rw [hdecl] at hown2
    rw [← e1]; exact Option.some.inj (hown.symm.trans hown2)
  have h6 := u_fits hfc hkC hkind (Or.inr hlay) hi hd hn hfit
  refine W.putFinK hx hb hown (hts _ hm) hi hst hcf hin (by rw [q2]; exact h6) q1 q3 (by rw [hsl]; exact k2_hasslot (q4 k hk)) rfl rfl hdg fun H' e1 e2 e3 => ?_
  rw [hsl] at e1 ⊢
  refine kk _ H' _ rfl (nc_W_putr hw ha e2 e3 ((nc_cell_obj (nc_cl_lt hc)).mpr ?_))
  refine t_OB.to (V := updV (nc_V ci (mi a) (K.2.2 a)) k (.ref v)) ⟨_, e1, q2, q3, t_set q4 hap hk _⟩ (fun j _ => ?_)
  rw [← nc_rv_pos hv]
  exact nc_V_kr hr
theorem nc_putR (cx : nc_C p s m args c cc nL own G) (hw : nc_W G K mi H locs) {ci k N index a v : Nat} {C : String} {T : u_T} {ty : FieldType} (hc : nc_cl[ci]? = some (C, T, N)) (hk : k < N) (hr : nc_isR ci k = true) (hfin : (T k).2.2.2 = false) (hd : parseFieldDescriptor (T k).2.2.1 = some ty) (hn : narrow ty (.ref v) = .ref v) (hfit : fits ty (.ref v) = true) (hm : Cond.fieldLink own index (T k).1 (T k).2.1 (T k).2.2.1 ∈ nc_U) (ha : nc_Is G K a (ci, N)) (hv : 0 < v) (hdg : decode cc pc = .ok (.putfield index, 3))
    (kk : ∀ (K1 : nc_K) (H1 : Heap) (locs1 : List Loc), K1 = nc_kr K a k v → nc_W G K1 mi H1 locs1 → W p l e R s m args below meth c H1 locs1 cells slots Q (F0 m (pc + 3) ls rest)) : W p l e R s m args below meth c H locs cells slots Q (F0 m pc ls (.ref v :: .ref a :: rest)) := by
  obtain ⟨hx, hb, hml, hown, hts, hE⟩ := cx
  have hK := hE.1
  obtain ⟨ty0, hty⟩ := nc_types hc
  have hap := va_apart (own := own) hts (nc_lay hc) ty0 hty (nc_names hc) hK hc
  obtain ⟨cell, q1, q2, q3, q4⟩ := (nc_cell_obj (nc_cl_lt hc)).mp (nc_at_cell hw ha)
  obtain ⟨hS, hfc, kC, hkC, hkind⟩ := hK.1 ci _ hc
  obtain ⟨cf, kf, fi, f, hi, hsl⟩ := hS k hk
  have hlay := hts _ (nc_lay hc _ (u_in_lay hk))
  unfold u_lay at hlay
  rw [if_neg (by rw [hfin]; decide)] at hlay
  have hst := (u_facts hfc hkC (u_lays hts (nc_lay hc) hk) hi).1
  have h6 := u_store hfc hkC hkind hlay hi hd hn hfit
  refine W.putK hx hb (f := f) ⟨hown, hts _ hm, ⟨_, _, _, hi⟩, hst⟩ (by rw [q2]; exact h6) q1 q3 (by rw [hsl]; exact k2_hasslot (q4 k hk)) rfl rfl hdg fun H' e1 e2 e3 => ?_
  rw [hsl] at e1 ⊢
  refine kk _ H' _ rfl (nc_W_putr hw ha e2 e3 ((nc_cell_obj (nc_cl_lt hc)).mpr ?_))
  refine t_OB.to (V := updV (nc_V ci (mi a) (K.2.2 a)) k (.ref v)) ⟨_, e1, q2, q3, t_set q4 hap hk _⟩ (fun j _ => ?_)
  rw [← nc_rv_pos hv]
  exact nc_V_kr hr
theorem nc_aast (cx : nc_C p s m args c cc nL own G) (hw : nc_W G K mi H locs) {a n ki t0 ci N v j : Nat} {i : Int32} {C : String} {T : u_T} (hki : 9 < ki) (ht : (nc_tys G.2.1)[t0]? = some (G.2.1 ki, .object C)) (hc : nc_cl[ci]? = some (C, T, N)) (ha : nc_Is G K a (ki, n)) (hv : nc_Is G K v (ci, N)) (hin : vp_in i n) (hj : j = i.toNatClampNeg) (hdg : decode cc pc = .ok (.aastore, 1))
    (kk : ∀ (K1 : nc_K) (H1 : Heap) (locs1 : List Loc), K1 = nc_kr K a j v → nc_W G K1 mi H1 locs1 → W p l e R s m args below meth c H1 locs1 cells slots Q (F0 m (pc + 1) ls rest)) : W p l e R s m args below meth c H locs cells slots Q (F0 m pc ls (.ref v :: .int i :: .ref a :: rest)) := by
  have h0 : 0 < v := Nat.lt_of_lt_of_le hw.2.1 hv.1
  subst hj
  obtain ⟨hx, hb, hml, hown, hts, hE⟩ := cx
  have hK := hE.1
  have hlt : i.toNatClampNeg < n := Nat.not_le.mp fun q => hin (Or.inr q)
  have hi0 : ¬ i < 0 := fun q => hin (Or.inl q)
  have hcell := (nc_cell_ref hki).mp (nc_at_cell hw ha)
  obtain ⟨cellV, g1, g2, g3, -⟩ := (nc_cell_obj (nc_cl_lt hc)).mp (nc_at_cell hw hv)
  have hcls := (hK.1 ci _ hc).2
  obtain ⟨kA, comp, k1, k2, k3, -⟩ := (hK.2 t0 _ ht).2
  have hcomp : comp = G.1.1 ci := Option.some.inj (k3.symm.trans hcls.1)
  subst hcomp
  obtain ⟨kC, hkC, -⟩ := hcls.2
  refine W.aast hx hb hcell (fun q h => by cases h) (fun h => by cases h) k1 k2 rfl hkC ⟨hi0, by rw [arrV_size]; exact hlt⟩ g1 (fun q h => by rw [g3] at h; cases h) (by rw [g2]; exact hkC) (by rw [g2]; exact va_assign hcls) rfl rfl hdg fun H1 e1 z1 oq => ?_
  refine kk _ H1 _ rfl (nc_W_putr hw ha z1 oq ((nc_cell_ref hki).mpr ?_))
  rw [e1, arrV_store]
  congr 2
  funext q
  by_cases hq : q = i.toNatClampNeg
  · subst hq
    simp [updV, nc_kr, nc_rv_pos h0]
  · simp [updV, nc_kr, hq]
-- calls of constructors
def nc_LI (own : String) (index : Nat) (y : MethodName) (bytes : ByteArray) (maxL n : Nat) : Prop :=
  Cond.methodLink own index y ∈ nc_U ∧ Cond.instanceMethod y ∈ nc_U ∧ Cond.initialized y.cls ∈ nc_U ∧ Cond.code y bytes maxL none ∈ nc_U ∧ y.name = "<init>" ∧
  (y.cls ≠ "java/lang/invoke/MethodHandle" ∧ y.cls ≠ "java/lang/invoke/VarHandle" ∧ (parseMethodDescriptor y.desc).map (fun d => d.parameters.length) = some n)
def nc_LN (own : String) (index : Nat) (y : MethodName) (bytes : ByteArray) (maxL n : Nat) : Prop :=
  (own, index, y) ∈ nc_nest ∧ Cond.instanceMethod y ∈ nc_U ∧ Cond.initialized y.cls ∈ nc_U ∧ Cond.code y bytes maxL none ∈ nc_U ∧ y.name = "<init>" ∧
  (y.cls ≠ "java/lang/invoke/MethodHandle" ∧ y.cls ≠ "java/lang/invoke/VarHandle" ∧ (parseMethodDescriptor y.desc).map (fun d => d.parameters.length) = some n)
theorem nc_runI {index maxL n b : Nat} {y : MethodName} {bytes : ByteArray} {rm : Room} {As : List Value} {mi' : nc_Mem} {st0 : List Value} {K' : nc_K} {mc ms : Nat} (cx : nc_C p s m args c cc nL own G) (hw : nc_W G K mi H locs) (hl : nc_LI own index y bytes maxL n) (hM : nc_M l y bytes maxL none rm mc ms G K K' (.ref b :: As) mi mi' none)
    (hn : As.length = n) (hsz : ls.size = nL) (hst : st0 = As.reverse ++ .ref b :: rest) (hW : (rest.map fun v => v.category).sum ≤ 8) (hR : rm.cells = mc ∧ rm.slots = ms ∧ rm.frames + 1 ≤ R.frames ∧ 8 + (maxL + 11) + rm.locals ≤ R.locals) (hcs : cells + mc ≤ R.cells ∧ slots + ms ≤ R.slots) (hdg : decode cc pc = .ok (.invokespecial index, 3))
    (kk : ∀ (H1 : Heap) (locs1 : List Loc), nc_W G K' mi' H1 locs1 → W p l e R s m args below meth c H1 locs1 (cells + mc) (slots + ms) Q (F0 m (pc + 3) ls rest)) : W p l e R s m args below meth c H locs cells slots Q (F0 m pc ls st0) := by
  obtain ⟨hx, hb, hml, hown, hts, hE⟩ := cx
  obtain ⟨w1, w2, w3, w4, w5, w6⟩ := hl
  have hrun := va_runI (Ts := nc_U) (g := F0 m pc ls st0) (locs := locs) (cells := cells) (slots := slots) (below := below) (meth := meth) (rest := rest) (H := H) (e := e) (b := b) (As := As) ⟨hx, hb, hml, hown, hts⟩ hM (cwI (R := R) n hts (nc_good w4) rfl hR.1 hR.2.1 (hts _ w3) (hts _ w1) (hts _ w2) w5 w6 ⟨hR.2.2.1, hR.2.2.2⟩)
    ⟨nc_blind G K mi _, fun U hU hW => ⟨rfl, by rw [hU]; exact nc_W_locs hw (fun _ h => by cases h), nc_E_warm hW hE⟩⟩
    rfl hn hsz hst (lv_room hW) hdg hcs
  intro T0 hT X
  obtain ⟨v, st₀, t, T', L, h0, X', hL, e1, e2, ⟨hv, hW'⟩, st⟩ := hrun T0 hT X
  cases hv
  obtain ⟨t2, a1, b1⟩ := kk T'.heap (locs ++ L) (nc_W_locs (by rw [e1]; exact hW') (fun q hq => by
    rcases List.mem_append.mp hq with h | h
    · exact hw.2.2.2.2.2.2 q h
    · exact hL q h)) T' rfl X'
  exact ⟨t2, st t2 a1, b1⟩
theorem nc_runN {index maxL n b : Nat} {y : MethodName} {bytes : ByteArray} {rm : Room} {As : List Value} {mi' : nc_Mem} {st0 : List Value} {K' : nc_K} {mc ms : Nat} (cx : nc_C p s m args c cc nL own G) (hw : nc_W G K mi H locs) (hl : nc_LN own index y bytes maxL n) (hM : nc_M l y bytes maxL none rm mc ms G K K' (.ref b :: As) mi mi' none)
    (hn : As.length = n) (hsz : ls.size = nL) (hst : st0 = As.reverse ++ .ref b :: rest) (hW : (rest.map fun v => v.category).sum ≤ 8) (hR : rm.cells = mc ∧ rm.slots = ms ∧ rm.frames + 1 ≤ R.frames ∧ 8 + (maxL + 11) + rm.locals ≤ R.locals) (hcs : cells + mc ≤ R.cells ∧ slots + ms ≤ R.slots) (hdg : decode cc pc = .ok (.invokespecial index, 3))
    (kk : ∀ (H1 : Heap) (locs1 : List Loc), nc_W G K' mi' H1 locs1 → W p l e R s m args below meth c H1 locs1 (cells + mc) (slots + ms) Q (F0 m (pc + 3) ls rest)) : W p l e R s m args below meth c H locs cells slots Q (F0 m pc ls st0) := by
  obtain ⟨hx, hb, hml, hown, hts, hE⟩ := cx
  obtain ⟨w1, w2, w3, w4, w5, w6⟩ := hl
  have hrun := va_runIN (Ts := nc_U) (g := F0 m pc ls st0) (locs := locs) (cells := cells) (slots := slots) (below := below) (meth := meth) (rest := rest) (H := H) (e := e) (b := b) (As := As) ⟨hx, hb, hml, hown, hts⟩ hM ⟨va_cnB (R := R) n hts (nc_good w4) rfl hR.1 hR.2.1 (hE.2.2.2.2.2.2.1 _ w1) (hts _ w3) w6 ⟨hR.2.2.1, hR.2.2.2⟩, w5, hts _ w2⟩
    ⟨nc_blind G K mi _, fun U hU hW => ⟨rfl, by rw [hU]; exact nc_W_locs hw (fun _ h => by cases h), nc_E_warm hW hE⟩⟩
    rfl hn hsz hst (lv_room hW) hdg hcs
  intro T0 hT X
  obtain ⟨v, st₀, t, T', L, h0, X', hL, e1, e2, ⟨hv, hW'⟩, st⟩ := hrun T0 hT X
  cases hv
  obtain ⟨t2, a1, b1⟩ := kk T'.heap (locs ++ L) (nc_W_locs (by rw [e1]; exact hW') (fun q hq => by
    rcases List.mem_append.mp hq with h | h
    · exact hw.2.2.2.2.2.2 q h
    · exact hL q h)) T' rfl X'
  exact ⟨t2, st t2 a1, b1⟩
theorem nc_oi {index a : Nat} (cx : nc_C p s m args c cc nL own G) (hsz : ls.size = nL) (w1 : Cond.methodLink own index objectInit ∈ nc_U) (w2 : Cond.instanceMethod objectInit ∈ nc_U) (w3 : Cond.code objectInit ⟨#[0xb1]⟩ 1 none ∈ nc_U) (hR : 1 ≤ R.frames ∧ (rest.map fun v => v.category).sum + 12 ≤ R.locals) (hdg : decode cc pc = .ok (.invokespecial index, 3))
    (kk : W p l e R s m args below meth c H locs cells slots Q (F0 m (pc + 3) ls rest)) : W p l e R s m args below meth c H locs cells slots Q (F0 m pc ls (.ref a :: rest)) := by
  obtain ⟨hx, hb, hml, hown, hts, hE⟩ := cx
  exact W.objInit hx hb hown (hts _ w1) (hts _ w2) (hts _ w3) rfl (by rw [hml]; exact hsz) rfl hdg hR.1 (by show 2 * 0 + _ + 12 ≤ _; omega) kk
theorem nc_vretK {mi' : nc_Mem} {K' : nc_K} {mc ms : Nat} (cx : nc_C p s m args c cc nL own G) (hw : nc_W G K mi H locs) (hr : meth.sig.returnType = none) (hlocks : meth.locks = false) (hq : mi' = mi ∧ K' = K) (hcs : cells ≤ mc ∧ slots ≤ ms) (hdg : decode cc pc = .ok (.return_, 1)) : W p l e R s m args below meth c H locs cells slots (MQ below (nc_Qc G K' mi' none) args s mc ms (fun q => G.2.2.1 ≤ q)) (F0 m pc ls []) := by
  obtain ⟨rfl, rfl⟩ := hq
  refine W.widen hcs.1 hcs.2 ?_
  exact W.vret cx.1 cx.2.1 hr (fun t ht _ => ⟨rfl, by rw [ht]; exact nc_W_locs hw (fun _ h => by cases h)⟩) hw.2.2.2.2.2.2 hdg hlocks
end NCN
theorem nc_meet_n {l : Launch} {y : MethodName} {cc : ByteArray} {maxL : Nat} {rm : Room} {G : nc_G} {K K' : nc_K} {av : List Value} {mi mi' : nc_Mem} {mc ms : Nat} (hy : plainName y.cls = true) (hn : (lg_sl av).length ≤ maxL)
    (body : ∀ (p : Program) (e : Env) (s : State) (m : MethodId) (args : Array Value) (below : List Frame) (meth : Method) (c : Code) (ls : Array Slot) (H : Heap), nc_C p s m args c cc maxL y.cls G → meth.name = y.name → meth.sig.returnType = none → meth.locks = false → nc_W G K mi H [] → lv_has ls maxL (lv_args 0 av) → W p l e rm s m args below meth c H [] 0 0 (MQ below (nc_Qc G K' mi' none) args s mc ms (fun q => G.2.2.1 ≤ q)) (F0 m 0 ls [])) :
    nc_M l y cc maxL none rm mc ms G K K' av mi mi' none := by
  refine Met.ofW (cc := cc) (maxL := maxL) (ret := none) hy rfl ?_
  intro p e s m args below meth c s₁ Bd hml hv
  have hin : meth.name = y.name := (name_of_methodNamed Bd.named Bd.method).1
  obtain ⟨rfl, cx, hw, hr, hlocks⟩ := nc_enter Bd hml hv
  refine nc_start hn (fun ls hl => ?_)
  exact body p e s m _ below meth c ls _ cx hin hr hlocks hw hl
theorem nc_Is_kr {G : nc_G} {K K1 : nc_K} {a a' k v : Nat} {kn : Nat × Nat} (h : nc_Is G K a kn) (e : K1 = nc_kr K a' k v) : nc_Is G K1 a kn := by subst e; exact h
theorem nc_Is_kn {G : nc_G} {K K1 : nc_K} {a : Nat} {kn kn' : Nat × Nat} (h : nc_Is G K a kn) (e : K1 = nc_kn K kn') : nc_Is G K1 a kn := by
  subst e
  exact ⟨h.1, Nat.lt_succ_of_lt h.2.1, by show (if a = K.1 then kn' else K.2.1 a) = kn; rw [if_neg (Nat.ne_of_lt h.2.1)]; exact h.2.2⟩
theorem nc_Is_nn {G : nc_G} {K K1 : nc_K} {kn : Nat × Nat} {a : Nat} (hB : G.2.2.1 ≤ K.1) (e : K1 = nc_kn K kn) (ha : a = K.1) : nc_Is G K1 a kn := by
  subst e; subst ha
  exact ⟨hB, Nat.lt_succ_self _, if_pos rfl⟩
