-- STRINGS: the JDK's own methods on the class's String constants, a constant by its place i < 5
def nc_sn (i : Nat) : Nat := nc_sl.getD i 0
def nc_sc (i j : Nat) : Int32 := (nc_sb.getD i []).getD j 0
abbrev nc_str (G : nc_G) (i : Nat) : Nat := G.2.2.2.2.1 i
abbrev nc_sv (G : nc_G) (i : Nat) : Nat := G.2.2.2.2.2 i
def nc_s5 {α : Type} (i : Nat) (f : Option α) : Option α := if i < 5 then f else none
theorem nc_s5_of {α : Type} {i : Nat} {f : Option α} {r : α} (h : nc_s5 i f = some r) : i < 5 ∧ f = some r := by
  unfold nc_s5 at h
  split at h
  · exact ⟨by assumption, h⟩
  · cases h
section NCS
variable {p : Program} {l : Launch} {e : Env} {R : Room} {s : State} {m : MethodId} {args : Array Value} {below : List Frame} {meth : Method} {c : Code} {H : Heap} {locs : List Loc} {cells slots : Nat} {Q : State → Prop}
variable {cc : ByteArray} {pc nL : Nat} {ls : Array Slot} {rest : List Value} {own : String} {G : nc_G} {K : nc_K} {mi : nc_Mem}
theorem nc_below (hE : nc_E G s) (hw : nc_W G K mi H locs) : ∀ a : Nat, a < G.2.2.2.1.size → ¬ G.2.2.1 ≤ a → H[a]? = G.2.2.2.1[a]? := fun a _ h => hw.2.2.2.1 a (Nat.not_le.mp h)
theorem nc_ldcs (i : Nat) (hi : i < 5) (cx : nc_C p s m args c cc nL "NobodyCarries$Letters" G) {index : Nat} (hx : index = 56 + 2 * i) (hdg : decode cc pc = .ok (.ldc index, 2)) (kk : W p l e R s m args below meth c H locs cells slots Q (F0 m (pc + 2) ls (.ref (nc_str G i) :: rest))) : W p l e R s m args below meth c H locs cells slots Q (F0 m pc ls rest) := by
  subst hx
  obtain ⟨hx, hb, hml, hown, hts, hE⟩ := cx
  exact va_ldcS hx hb hown (hE.2.2.2.1 i hi) hdg kk
theorem nc_sval (cx : nc_C p s m args c cc nL own G) (hw : nc_W G K mi H locs) {i index : Nat} (hi : i < 5) (hm : Cond.fieldLink own index "java/lang/String" "value" "[B" ∈ nc_U) (hdg : decode cc pc = .ok (.getfield index, 3)) (kk : W p l e R s m args below meth c H locs cells slots Q (F0 m (pc + 3) ls (.ref (nc_sv G i) :: rest))) : W p l e R s m args below meth c H locs cells slots Q (F0 m pc ls (.ref (nc_str G i) :: rest)) := by
  obtain ⟨hx, hb, hml, hown, hts, hE⟩ := cx
  obtain ⟨cf, k, fi, f, cell, h1, h2, h3, h4, h5, h6⟩ := ((hE.2.2.1.1 i hi).2.2.1).kept (nc_below hE hw)
  exact W.getf hx hb hown (hts _ hm) h1 h2 h3 h4 h5 rfl rfl hdg kk
theorem nc_scod (cx : nc_C p s m args c cc nL own G) (hw : nc_W G K mi H locs) {i index : Nat} (hi : i < 5) (hm : Cond.fieldLink own index "java/lang/String" "coder" "B" ∈ nc_U) (hdg : decode cc pc = .ok (.getfield index, 3)) (kk : W p l e R s m args below meth c H locs cells slots Q (F0 m (pc + 3) ls (.int 0 :: rest))) : W p l e R s m args below meth c H locs cells slots Q (F0 m pc ls (.ref (nc_str G i) :: rest)) := by
  obtain ⟨hx, hb, hml, hown, hts, hE⟩ := cx
  obtain ⟨cf, k, fi, f, cell, h1, h2, h3, h4, h5, h6⟩ := ((hE.2.2.1.1 i hi).2.1).kept (nc_below hE hw)
  exact W.getf hx hb hown (hts _ hm) h1 h2 h3 h4 h5 rfl rfl hdg kk
theorem nc_slen (cx : nc_C p s m args c cc nL own G) (hw : nc_W G K mi H locs) {i : Nat} (hi : i < 5) (hdg : decode cc pc = .ok (.arraylength, 1)) (kk : W p l e R s m args below meth c H locs cells slots Q (F0 m (pc + 1) ls (.int (Int32.ofNat (nc_sn i)) :: rest))) : W p l e R s m args below meth c H locs cells slots Q (F0 m pc ls (.ref (nc_sv G i) :: rest)) := by
  obtain ⟨hx, hb, hml, hown, hts, hE⟩ := cx
  obtain ⟨cell, h1, h2, h3, h4, h5, h6, h7⟩ := ((hE.2.2.1.1 i hi).2.2.2).kept (nc_below hE hw)
  exact W.alen hx hb h1 h2 h5 rfl rfl hdg kk
theorem nc_sbld (cx : nc_C p s m args c cc nL own G) (hw : nc_W G K mi H locs) {i j : Nat} {x : Int32} (hi : i < 5) (hin : vp_in x (nc_sn i)) (hj : j = x.toNatClampNeg) (hdg : decode cc pc = .ok (.baload, 1)) (kk : W p l e R s m args below meth c H locs cells slots Q (F0 m (pc + 1) ls (.int (nc_sc i j) :: rest))) : W p l e R s m args below meth c H locs cells slots Q (F0 m pc ls (.int x :: .ref (nc_sv G i) :: rest)) := by
  subst hj
  obtain ⟨hx, hb, hml, hown, hts, hE⟩ := cx
  obtain ⟨cell, h1, h2, h3, h4, h5, h6, h7⟩ := ((hE.2.2.1.1 i hi).2.2.2).kept (nc_below hE hw)
  have hlt : x.toNatClampNeg < nc_sn i := Nat.not_le.mp fun q => hin (Or.inr q)
  refine W.bald (v := .int (nc_sc i x.toNatClampNeg)) hx hb h1 h2 h3 ?_ (h6 _ hlt) rfl rfl hdg kk
  intro q
  rcases q with q | q
  · exact hin (Or.inl q)
  · exact absurd (Nat.lt_of_lt_of_le hlt h4) (Nat.not_lt.mpr q)
theorem nc_gcs (cx : nc_C p s m args c cc nL own G) (hw : nc_W G K mi H locs) {index : Nat} (hm : Cond.fieldLink own index "java/lang/String" "COMPACT_STRINGS" "Z" ∈ nc_U) (hdg : decode cc pc = .ok (.getstatic index, 3)) (kk : W p l e R s m args below meth c H locs cells slots Q (F0 m (pc + 3) ls (.int 1 :: rest))) : W p l e R s m args below meth c H locs cells slots Q (F0 m pc ls rest) := by
  obtain ⟨hx, hb, hml, hown, hts, hE⟩ := cx
  obtain ⟨cf, kf, fi, f, a, cell, h1, h2, h3, h4, h5, h6, h7, h8⟩ := hE.2.2.2.2.1.kept (nc_below hE hw)
  exact W.gets hx hb hown (hts _ hm) h1 h2 h3 h4 h5 (fun e => by rw [e] at h6; cases h6) h7 rfl hdg kk
theorem nc_gsf (cx : nc_C p s m args c cc nL own G) (hw : nc_W G K mi H locs) {index : Nat} (hm : Cond.fieldLink own index "jdk/internal/util/Preconditions" "SIOOBE_FORMATTER" "Ljava/util/function/BiFunction;" ∈ nc_U) (hdg : decode cc pc = .ok (.getstatic index, 3)) (k0 : W p l e R s m args below meth c H locs cells slots Q (F0 m (pc + 3) ls (.null :: rest))) (k1 : ∀ t : Nat, W p l e R s m args below meth c H locs cells slots Q (F0 m (pc + 3) ls (.ref t :: rest))) : W p l e R s m args below meth c H locs cells slots Q (F0 m pc ls rest) := by
  obtain ⟨hx, hb, hml, hown, hts, hE⟩ := cx
  rcases hE.2.2.2.2.2.1 with hZ | ⟨t, hZ⟩
  · obtain ⟨cf, kf, fi, f, a, cell, h1, h2, h3, h4, h5, h6, h7, h8⟩ := hZ.kept (nc_below hE hw)
    exact W.gets hx hb hown (hts _ hm) h1 h2 h3 h4 h5 (fun e => by rw [e] at h6; cases h6) h7 rfl hdg k0
  · obtain ⟨cf, kf, fi, f, a, cell, h1, h2, h3, h4, h5, h6, h7, h8⟩ := hZ.kept (nc_below hE hw)
    exact W.gets hx hb hown (hts _ hm) h1 h2 h3 h4 h5 (fun e => by rw [e] at h6; cases h6) h7 rfl hdg (k1 t)
/-- a call of a method of String on a constant -/
theorem nc_callTi {index maxL n i : Nat} {y : MethodName} {bytes : ByteArray} {ret : Option FieldType} {rm : Room} {As : List Value} {r : Int32} {st0 : List Value} (cx : nc_C p s m args c cc nL own G) (hw : nc_W G K mi H locs) (hl : nc_LV own index "java/lang/String" y bytes maxL ret n) (hM : nc_M l y bytes maxL ret rm 0 0 G K K (.ref (nc_str G i) :: As) mi mi (some (.int r))) (hi : i < 5)
    (hn : As.length = n) (hsz : ls.size = nL) (hst : st0 = As.reverse ++ .ref (nc_str G i) :: rest) (hW : (rest.map fun v => v.category).sum ≤ 8) (hR : rm.cells = 0 ∧ rm.slots = 0 ∧ rm.frames + 1 ≤ R.frames ∧ 8 + (maxL + 11) + rm.locals ≤ R.locals) (hdg : decode cc pc = .ok (.invokevirtual index, 3))
    (kk : ∀ (H1 : Heap) (locs1 : List Loc), nc_W G K mi H1 locs1 → W p l e R s m args below meth c H1 locs1 0 0 Q (F0 m (pc + 3) ls (.int r :: rest))) : W p l e R s m args below meth c H locs 0 0 Q (F0 m pc ls st0) := by
  obtain ⟨hx, hb, hml, hown, hts, hE⟩ := cx
  obtain ⟨cell, q1, q2, q3, -⟩ := ((hE.2.2.1.1 i hi).1).kept (nc_below hE hw)
  have hrun := va_runV (Ts := nc_U) (g := F0 m pc ls st0) (locs := locs) (cells := 0) (slots := 0) (below := below) (meth := meth) (rest := rest) (H := H) (e := e) ⟨hx, hb, hml, hown, hts⟩ hM (cwV (R := R) n hts (nc_LV_good hl) rfl hR.1 hR.2.1 hl.2.2.2.2.2 ⟨hR.2.2.1, hR.2.2.2⟩)
    ⟨nc_blind G K mi _, ⟨cell, q1, q2, q3⟩, fun U hU hW => ⟨rfl, by rw [hU]; exact nc_W_locs hw (fun _ h => by cases h), nc_E_warm hW hE⟩⟩
    rfl hn hsz hst (lv_room hW) hdg ⟨Nat.zero_le _, Nat.zero_le _⟩
  intro T0 hT X
  obtain ⟨v, st₀, t, T', L, h0, X', hL, e1, e2, ⟨hv, hW'⟩, st⟩ := hrun T0 hT X
  cases hv
  obtain ⟨t2, a1, b1⟩ := kk T'.heap (locs ++ L) (nc_W_locs (by rw [e1]; exact hW') (fun q hq => by
    rcases List.mem_append.mp hq with h | h
    · exact hw.2.2.2.2.2.2 q h
    · exact hL q h)) T' rfl X'
  exact ⟨t2, st t2 a1, b1⟩
/-- a call that answers a constant -/
theorem nc_callVs {index maxL n b ci N i : Nat} {C : String} {T : u_T} {y : MethodName} {bytes : ByteArray} {ret : Option FieldType} {rm : Room} {As : List Value} {mi' : nc_Mem} {st0 : List Value} (cx : nc_C p s m args c cc nL own G) (hw : nc_W G K mi H locs) (hl : nc_LV own index C y bytes maxL ret n) (hM : nc_M l y bytes maxL ret rm 0 0 G K K (.ref b :: As) mi mi' (some (.ref (nc_str G i)))) (hc : nc_cl[ci]? = some (C, T, N)) (ha : nc_Is G K b (ci, N))
    (hn : As.length = n) (hsz : ls.size = nL) (hst : st0 = As.reverse ++ .ref b :: rest) (hW : (rest.map fun v => v.category).sum ≤ 8) (hR : rm.cells = 0 ∧ rm.slots = 0 ∧ rm.frames + 1 ≤ R.frames ∧ 8 + (maxL + 11) + rm.locals ≤ R.locals) (hdg : decode cc pc = .ok (.invokevirtual index, 3))
    (kk : ∀ (H1 : Heap) (locs1 : List Loc), nc_W G K mi' H1 locs1 → W p l e R s m args below meth c H1 locs1 0 0 Q (F0 m (pc + 3) ls (.ref (nc_str G i) :: rest))) : W p l e R s m args below meth c H locs 0 0 Q (F0 m pc ls st0) :=
  nc_runV cx hw hl hM hc ha hn hsz hst hW hR ⟨Nat.zero_le _, Nat.zero_le _⟩ hdg kk
def nc_Rs (p : Program) (l : Launch) (e : Env) (R : Room) (s : State) (m : MethodId) (args : Array Value) (below : List Frame) (meth : Method) (c : Code) (cc : ByteArray) (Q : State → Prop) (G : nc_G) (K : nc_K) (mi' : nc_Mem) (i : Nat) : Prop :=
  ∀ (pc : Nat) (H : Heap) (locs : List Loc) (ls : Array Slot), nc_W G K mi' H locs → decode cc pc = .ok (.areturn, 1) → W p l e R s m args below meth c H locs 0 0 Q (F0 m pc ls [.ref (nc_str G i)])
theorem nc_stp {i r : Nat} (hret : nc_Rs p l e R s m args below meth c cc Q G K mi r) (hf : i = r) (hw : nc_W G K mi H locs) (hdg : decode cc pc = .ok (.areturn, 1)) : W p l e R s m args below meth c H locs 0 0 Q (F0 m pc ls [.ref (nc_str G i)]) := by
  subst hf
  exact hret _ _ _ _ hw hdg
end NCS
theorem nc_meet_s {l : Launch} {y : MethodName} {cc : ByteArray} {maxL : Nat} {C : String} {rm : Room} {G : nc_G} {K : nc_K} {av : List Value} {mi mi' : nc_Mem} {i : Nat} (hy : plainName y.cls = true) (hn : (lg_sl av).length ≤ maxL)
    (body : ∀ (p : Program) (e : Env) (s : State) (m : MethodId) (args : Array Value) (below : List Frame) (meth : Method) (c : Code) (Q : State → Prop) (H : Heap) (locs : List Loc) (ls : Array Slot), nc_C p s m args c cc maxL y.cls G → nc_Rs p l e rm s m args below meth c cc Q G K mi' i → nc_W G K mi H locs → lv_has ls maxL (lv_args 0 av) → W p l e rm s m args below meth c H locs 0 0 Q (F0 m 0 ls [])) :
    nc_M l y cc maxL (some (.object C)) rm 0 0 G K K av mi mi' (some (.ref (nc_str G i))) := by
  refine Met.ofW (cc := cc) (maxL := maxL) (ret := some (.object C)) hy rfl ?_
  intro p e s m args below meth c s₁ Bd hml hv
  obtain ⟨rfl, cx, hw, hr, hlocks⟩ := nc_enter Bd hml hv
  refine nc_start hn (fun ls hl => ?_)
  exact body p e s m _ below meth c _ _ _ ls cx (fun pc H locs ls hw hdg => W.aret cx.1 cx.2.1 hr (Or.inl ⟨_, rfl⟩) (Or.inr ⟨_, rfl⟩) (fun t ht _ => ⟨rfl, by rw [ht]; exact nc_W_locs hw (fun _ h => by cases h)⟩) hw.2.2.2.2.2.2 hdg hlocks) hw hl
theorem fl_J0_9 : Cond.fieldLink RJ0 9 "java/lang/String" "value" "[B" ∈ nc_U := nc_w 1248 (by decide +kernel) rfl
theorem fl_J0_15 : Cond.fieldLink RJ0 15 "java/lang/String" "coder" "B" ∈ nc_U := nc_w 1249 (by decide +kernel) rfl
theorem fl_J0_38 : Cond.fieldLink RJ0 38 "java/lang/String" "COMPACT_STRINGS" "Z" ∈ nc_U := nc_w 414 (by decide +kernel) rfl
theorem fl_J0_1053 : Cond.fieldLink RJ0 1053 "jdk/internal/util/Preconditions" "SIOOBE_FORMATTER" "Ljava/util/function/BiFunction;" ∈ nc_U := nc_w 430 (by decide +kernel) rfl
theorem wc_J0_coder_7d493 : Cond.code yJ0_coder_7d493 cJ0_coder_7d493 1 (some .byte) ∈ nc_U := nc_w 413 (by decide +kernel) rfl
theorem wm_J0_coder_7d493 : Cond.instanceMethod yJ0_coder_7d493 ∈ nc_U := nc_w 411 (by decide +kernel) rfl
theorem wl_J0_coder_7d493 : Cond.selects RJ0 yJ0_coder_7d493 yJ0_coder_7d493 ∈ nc_U := nc_w 412 (by decide +kernel) rfl
theorem ml_J0_335 : Cond.methodLink RJ0 335 yJ0_coder_7d493 ∈ nc_U := nc_w 410 (by decide +kernel) rfl
theorem lk_J0_335 : nc_LV RJ0 335 RJ0 yJ0_coder_7d493 cJ0_coder_7d493 1 (some .byte) 0 := ⟨ml_J0_335, wm_J0_coder_7d493, wl_J0_coder_7d493, wi_J0, wc_J0_coder_7d493, by decide +kernel⟩
theorem wc_J0_isLatin1_aae02 : Cond.code yJ0_isLatin1_aae02 cJ0_isLatin1_aae02 1 (some .boolean) ∈ nc_U := nc_w 423 (by decide +kernel) rfl
theorem wm_J0_isLatin1_aae02 : Cond.instanceMethod yJ0_isLatin1_aae02 ∈ nc_U := nc_w 421 (by decide +kernel) rfl
theorem wl_J0_isLatin1_aae02 : Cond.selects RJ0 yJ0_isLatin1_aae02 yJ0_isLatin1_aae02 ∈ nc_U := nc_w 422 (by decide +kernel) rfl
theorem ml_J0_492 : Cond.methodLink RJ0 492 yJ0_isLatin1_aae02 ∈ nc_U := nc_w 420 (by decide +kernel) rfl
theorem lk_J0_492 : nc_LV RJ0 492 RJ0 yJ0_isLatin1_aae02 cJ0_isLatin1_aae02 1 (some .boolean) 0 := ⟨ml_J0_492, wm_J0_isLatin1_aae02, wl_J0_isLatin1_aae02, wi_J0, wc_J0_isLatin1_aae02, by decide +kernel⟩
theorem wc_J1_charAt_3b067 : Cond.code yJ1_charAt_3b067 cJ1_charAt_3b067 2 (some .char) ∈ nc_U := nc_w 426 (by decide +kernel) rfl
theorem ws_J1_charAt_3b067 : Cond.static yJ1_charAt_3b067 ∈ nc_U := nc_w 425 (by decide +kernel) rfl
theorem ml_J0_495 : Cond.methodLink RJ0 495 yJ1_charAt_3b067 ∈ nc_U := nc_w 424 (by decide +kernel) rfl
theorem lk_J0_495 : nc_LS RJ0 495 yJ1_charAt_3b067 cJ1_charAt_3b067 2 (some .char) 2 := ⟨ml_J0_495, ws_J1_charAt_3b067, wi_J1, wc_J1_charAt_3b067, by decide +kernel⟩
theorem wc_J0_checkIndex_df160 : Cond.code yJ0_checkIndex_df160 cJ0_checkIndex_df160 2 none ∈ nc_U := nc_w 429 (by decide +kernel) rfl
theorem ws_J0_checkIndex_df160 : Cond.static yJ0_checkIndex_df160 ∈ nc_U := nc_w 428 (by decide +kernel) rfl
theorem ml_J1_9 : Cond.methodLink RJ1 9 yJ0_checkIndex_df160 ∈ nc_U := nc_w 427 (by decide +kernel) rfl
theorem lk_J1_9 : nc_LS RJ1 9 yJ0_checkIndex_df160 cJ0_checkIndex_df160 2 none 2 := ⟨ml_J1_9, ws_J0_checkIndex_df160, wi_J0, wc_J0_checkIndex_df160, by decide +kernel⟩
theorem wc_J3_checkIndex_8e157 : Cond.code yJ3_checkIndex_8e157 cJ3_checkIndex_8e157 3 (some .int) ∈ nc_U := nc_w 434 (by decide +kernel) rfl
theorem ws_J3_checkIndex_8e157 : Cond.static yJ3_checkIndex_8e157 ∈ nc_U := nc_w 433 (by decide +kernel) rfl
theorem ml_J0_1059 : Cond.methodLink RJ0 1059 yJ3_checkIndex_8e157 ∈ nc_U := nc_w 432 (by decide +kernel) rfl
theorem lk_J0_1059 : nc_LS RJ0 1059 yJ3_checkIndex_8e157 cJ3_checkIndex_8e157 3 (some .int) 3 := ⟨ml_J0_1059, ws_J3_checkIndex_8e157, wi_J3, wc_J3_checkIndex_8e157, by decide +kernel⟩
theorem wc_J0_isEmpty_aae02 : Cond.code yJ0_isEmpty_aae02 cJ0_isEmpty_aae02 1 (some .boolean) ∈ nc_U := nc_w 405 (by decide +kernel) rfl
theorem wm_J0_isEmpty_aae02 : Cond.instanceMethod yJ0_isEmpty_aae02 ∈ nc_U := nc_w 403 (by decide +kernel) rfl
theorem wl_J0_isEmpty_aae02 : Cond.selects RJ0 yJ0_isEmpty_aae02 yJ0_isEmpty_aae02 ∈ nc_U := nc_w 404 (by decide +kernel) rfl
theorem ml_X1_36 : Cond.methodLink RX1 36 yJ0_isEmpty_aae02 ∈ nc_U := nc_w 402 (by decide +kernel) rfl
theorem lk_X1_36 : nc_LV RX1 36 RJ0 yJ0_isEmpty_aae02 cJ0_isEmpty_aae02 1 (some .boolean) 0 := ⟨ml_X1_36, wm_J0_isEmpty_aae02, wl_J0_isEmpty_aae02, wi_J0, wc_J0_isEmpty_aae02, by decide +kernel⟩
theorem wc_J0_length_8abf5 : Cond.code yJ0_length_8abf5 cJ0_length_8abf5 1 (some .int) ∈ nc_U := nc_w 409 (by decide +kernel) rfl
theorem wm_J0_length_8abf5 : Cond.instanceMethod yJ0_length_8abf5 ∈ nc_U := nc_w 407 (by decide +kernel) rfl
theorem wl_J0_length_8abf5 : Cond.selects RJ0 yJ0_length_8abf5 yJ0_length_8abf5 ∈ nc_U := nc_w 408 (by decide +kernel) rfl
theorem ml_X1_42 : Cond.methodLink RX1 42 yJ0_length_8abf5 ∈ nc_U := nc_w 406 (by decide +kernel) rfl
theorem lk_X1_42 : nc_LV RX1 42 RJ0 yJ0_length_8abf5 cJ0_length_8abf5 1 (some .int) 0 := ⟨ml_X1_42, wm_J0_length_8abf5, wl_J0_length_8abf5, wi_J0, wc_J0_length_8abf5, by decide +kernel⟩
theorem wc_J0_charAt_5068e : Cond.code yJ0_charAt_5068e cJ0_charAt_5068e 2 (some .char) ∈ nc_U := nc_w 419 (by decide +kernel) rfl
theorem wm_J0_charAt_5068e : Cond.instanceMethod yJ0_charAt_5068e ∈ nc_U := nc_w 417 (by decide +kernel) rfl
theorem wl_J0_charAt_5068e : Cond.selects RJ0 yJ0_charAt_5068e yJ0_charAt_5068e ∈ nc_U := nc_w 418 (by decide +kernel) rfl
theorem ml_X1_45 : Cond.methodLink RX1 45 yJ0_charAt_5068e ∈ nc_U := nc_w 416 (by decide +kernel) rfl
theorem lk_X1_45 : nc_LV RX1 45 RJ0 yJ0_charAt_5068e cJ0_charAt_5068e 2 (some .char) 1 := ⟨ml_X1_45, wm_J0_charAt_5068e, wl_J0_charAt_5068e, wi_J0, wc_J0_charAt_5068e, by decide +kernel⟩
-- the JDK's methods
abbrev rm_J0_isEmpty : Room := { frames := 0, cells := 0, slots := 0, locals := 0 }
theorem c_J0_isEmpty (l : Launch) {G : nc_G} {K : nc_K} {o : Nat} (h0 : o < 5) (mi : nc_Mem) : nc_M l yJ0_isEmpty_aae02 cJ0_isEmpty_aae02 1 (some .boolean) rm_J0_isEmpty 0 0 G K K [.ref (nc_str G o)] mi mi (some (.int (if Int32.ofNat (nc_sn o) = 0 then 1 else 0))) := by
  refine nc_meet_i (by decide) (Nat.le_of_ble_eq_true rfl) ?_
  intro p e s m args below meth c Q H locs ls cx hret hw hl
  have cx : nc_C p s m args c cJ0_isEmpty_aae02 1 RJ0 G := cx
  have hl : lv_has ls 1 [(0, .ref (nc_str G o))] := hl
  have hx := cx.1
  have hb := cx.2.1
  refine lv_aload_n hx hb dJ0_isEmpty_aae02_0 rfl (lv_at hl 0 rfl) ?_
  refine nc_sval cx hw h0 fl_J0_9 dJ0_isEmpty_aae02_1 ?_
  refine nc_slen cx hw h0 dJ0_isEmpty_aae02_4 ?_
  refine lv_if_ne (tgt := 12) hx hb dJ0_isEmpty_aae02_5 (by decide) (fun c1 => ?_) (fun c1 => ?_)
  · refine lv_iconst (v := 0) hx hb dJ0_isEmpty_aae02_12 (by decide) ?_
    exact nc_rtp hret (by rw [if_neg c1]) rfl hw dJ0_isEmpty_aae02_13
  · refine lv_iconst (v := 1) hx hb dJ0_isEmpty_aae02_8 (by decide) ?_
    refine lv_goto (tgt := 13) hx hb dJ0_isEmpty_aae02_9 (by decide) ?_
    exact nc_rtp hret (by rw [if_pos c1]) rfl hw dJ0_isEmpty_aae02_13
abbrev rm_J0_coder : Room := { frames := 0, cells := 0, slots := 0, locals := 0 }
theorem c_J0_coder (l : Launch) {G : nc_G} {K : nc_K} {o : Nat} (h0 : o < 5) (mi : nc_Mem) : nc_M l yJ0_coder_7d493 cJ0_coder_7d493 1 (some .byte) rm_J0_coder 0 0 G K K [.ref (nc_str G o)] mi mi (some (.int 0)) := by
  refine nc_meet_i (by decide) (Nat.le_of_ble_eq_true rfl) ?_
  intro p e s m args below meth c Q H locs ls cx hret hw hl
  have cx : nc_C p s m args c cJ0_coder_7d493 1 RJ0 G := cx
  have hl : lv_has ls 1 [(0, .ref (nc_str G o))] := hl
  have hx := cx.1
  have hb := cx.2.1
  refine nc_gcs cx hw fl_J0_38 dJ0_coder_7d493_0 ?_
  refine lv_if_eq (tgt := 13) hx hb dJ0_coder_7d493_3 (by decide) (fun c1 => absurd c1 (by decide)) (fun c1 => ?_)
  refine lv_aload_n hx hb dJ0_coder_7d493_6 rfl (lv_at hl 0 rfl) ?_
  refine nc_scod cx hw h0 fl_J0_15 dJ0_coder_7d493_7 ?_
  refine lv_goto (tgt := 14) hx hb dJ0_coder_7d493_10 (by decide) ?_
  exact nc_rtp hret rfl rfl hw dJ0_coder_7d493_14
abbrev rm_J0_isLatin1 : Room := { frames := 0, cells := 0, slots := 0, locals := 0 }
theorem c_J0_isLatin1 (l : Launch) {G : nc_G} {K : nc_K} {o : Nat} (h0 : o < 5) (mi : nc_Mem) : nc_M l yJ0_isLatin1_aae02 cJ0_isLatin1_aae02 1 (some .boolean) rm_J0_isLatin1 0 0 G K K [.ref (nc_str G o)] mi mi (some (.int 1)) := by
  refine nc_meet_i (by decide) (Nat.le_of_ble_eq_true rfl) ?_
  intro p e s m args below meth c Q H locs ls cx hret hw hl
  have cx : nc_C p s m args c cJ0_isLatin1_aae02 1 RJ0 G := cx
  have hl : lv_has ls 1 [(0, .ref (nc_str G o))] := hl
  have hx := cx.1
  have hb := cx.2.1
  refine nc_gcs cx hw fl_J0_38 dJ0_isLatin1_aae02_0 ?_
  refine lv_if_eq (tgt := 17) hx hb dJ0_isLatin1_aae02_3 (by decide) (fun c1 => absurd c1 (by decide)) (fun c1 => ?_)
  refine lv_aload_n hx hb dJ0_isLatin1_aae02_6 rfl (lv_at hl 0 rfl) ?_
  refine nc_scod cx hw h0 fl_J0_15 dJ0_isLatin1_aae02_7 ?_
  refine lv_if_ne (tgt := 17) hx hb dJ0_isLatin1_aae02_10 (by decide) (fun c2 => absurd rfl c2) (fun c2 => ?_)
  refine lv_iconst (v := 1) hx hb dJ0_isLatin1_aae02_13 (by decide) ?_
  refine lv_goto (tgt := 18) hx hb dJ0_isLatin1_aae02_14 (by decide) ?_
  exact nc_rtp hret rfl rfl hw dJ0_isLatin1_aae02_18
theorem nc_shr0 : ∀ i, i < 5 → Int32.ofNat (nc_sn i) >>> ((0 : Int32) &&& 31) = Int32.ofNat (nc_sn i) := by decide +kernel
abbrev rm_J0_length : Room := { frames := 1, cells := 0, slots := 0, locals := 40 }
theorem c_J0_length (l : Launch) {G : nc_G} {K : nc_K} {o : Nat} (h0 : o < 5) (mi : nc_Mem) : nc_M l yJ0_length_8abf5 cJ0_length_8abf5 1 (some .int) rm_J0_length 0 0 G K K [.ref (nc_str G o)] mi mi (some (.int (Int32.ofNat (nc_sn o)))) := by
  refine nc_meet_i (by decide) (Nat.le_of_ble_eq_true rfl) ?_
  intro p e s m args below meth c Q H locs ls cx hret hw hl
  have cx : nc_C p s m args c cJ0_length_8abf5 1 RJ0 G := cx
  have hl : lv_has ls 1 [(0, .ref (nc_str G o))] := hl
  have hx := cx.1
  have hb := cx.2.1
  refine lv_aload_n hx hb dJ0_length_8abf5_0 rfl (lv_at hl 0 rfl) ?_
  refine nc_sval cx hw h0 fl_J0_9 dJ0_length_8abf5_1 ?_
  refine nc_slen cx hw h0 dJ0_length_8abf5_4 ?_
  refine lv_aload_n hx hb dJ0_length_8abf5_5 rfl (lv_at hl 0 rfl) ?_
  refine nc_callTi cx hw lk_J0_335 (c_J0_coder l h0 mi) h0 rfl hl.1 rfl (Nat.le_of_ble_eq_true rfl) ⟨rfl, rfl, Nat.le_of_ble_eq_true rfl, Nat.le_of_ble_eq_true rfl⟩ dJ0_length_8abf5_6 (fun H locs hw => ?_)
  refine lv_ishr hx hb dJ0_length_8abf5_9 ?_
  rw [nc_shr0 o h0]
  exact nc_rtp hret rfl rfl hw dJ0_length_8abf5_10
abbrev rm_J3_checkIndex : Room := { frames := 0, cells := 0, slots := 0, locals := 0 }
theorem c_J3_checkIndex (l : Launch) {G : nc_G} {K : nc_K} (mi : nc_Mem) (a0 a1 : Int32) (w : Value) (hn : (lg_sl [.int a0, .int a1, w]).length ≤ 3) (h0 : ¬ a0 < 0) (h1 : a0 < a1) : nc_M l yJ3_checkIndex_8e157 cJ3_checkIndex_8e157 3 (some .int) rm_J3_checkIndex 0 0 G K K [.int a0, .int a1, w] mi mi (some (.int a0)) := by
  refine nc_meet_i (by decide) hn ?_
  intro p e s m args below meth c Q H locs ls cx hret hw hl
  have cx : nc_C p s m args c cJ3_checkIndex_8e157 3 RJ3 G := cx
  have hl : lv_has ls 3 [(0, .int a0), (1, .int a1)] := lv_sub hl [0, 1] rfl
  have hx := cx.1
  have hb := cx.2.1
  refine lv_iload_n hx hb dJ3_checkIndex_8e157_0 rfl (lv_at hl 0 rfl) ?_
  refine lv_if_lt (tgt := 9) hx hb dJ3_checkIndex_8e157_1 (by decide) (fun c1 => absurd c1 h0) (fun c1 => ?_)
  refine lv_iload_n hx hb dJ3_checkIndex_8e157_4 rfl (lv_at hl 0 rfl) ?_
  refine lv_iload_n hx hb dJ3_checkIndex_8e157_5 rfl (lv_at hl 1 rfl) ?_
  refine lv_icmp_lt (tgt := 16) hx hb dJ3_checkIndex_8e157_6 (by decide) (fun c2 => ?_) (fun c2 => absurd h1 c2)
  refine lv_iload_n hx hb dJ3_checkIndex_8e157_16 rfl (lv_at hl 0 rfl) ?_
  exact nc_rtp hret rfl rfl hw dJ3_checkIndex_8e157_17
abbrev rm_J0_checkIndex : Room := { frames := 1, cells := 0, slots := 0, locals := 40 }
theorem c_J0_checkIndex (l : Launch) {G : nc_G} {K : nc_K} (mi : nc_Mem) (a0 a1 : Int32) (h0 : ¬ a0 < 0) (h1 : a0 < a1) : nc_M l yJ0_checkIndex_df160 cJ0_checkIndex_df160 2 none rm_J0_checkIndex 0 0 G K K [.int a0, .int a1] mi mi none := by
  refine nc_meet_v (by decide) (Nat.le_of_ble_eq_true rfl) ?_
  intro p e s m args below meth c Q H locs ls cx hret hw hl
  have cx : nc_C p s m args c cJ0_checkIndex_df160 2 RJ0 G := cx
  have hl : lv_has ls 2 [(0, .int a0), (1, .int a1)] := hl
  have hx := cx.1
  have hb := cx.2.1
  refine lv_iload_n hx hb dJ0_checkIndex_df160_0 rfl (lv_at hl 0 rfl) ?_
  refine lv_iload_n hx hb dJ0_checkIndex_df160_1 rfl (lv_at hl 1 rfl) ?_
  refine nc_gsf cx hw fl_J0_1053 dJ0_checkIndex_df160_2 ?_ (fun t => ?_)
  · refine nc_callSi cx hw lk_J0_1059 (c_J3_checkIndex l mi a0 a1 .null (Nat.le_of_ble_eq_true rfl) h0 h1) rfl hl.1 rfl (Nat.le_of_ble_eq_true rfl) ⟨rfl, rfl, Nat.le_of_ble_eq_true rfl, Nat.le_of_ble_eq_true rfl⟩ dJ0_checkIndex_df160_5 (fun H locs hw => ?_)
    refine lv_pop hx hb dJ0_checkIndex_df160_8 rfl ?_
    exact nc_vtm hret rfl hw dJ0_checkIndex_df160_9
  · refine nc_callSi cx hw lk_J0_1059 (c_J3_checkIndex l mi a0 a1 (.ref t) (Nat.le_of_ble_eq_true rfl) h0 h1) rfl hl.1 rfl (Nat.le_of_ble_eq_true rfl) ⟨rfl, rfl, Nat.le_of_ble_eq_true rfl, Nat.le_of_ble_eq_true rfl⟩ dJ0_checkIndex_df160_5 (fun H locs hw => ?_)
    refine lv_pop hx hb dJ0_checkIndex_df160_8 rfl ?_
    exact nc_vtm hret rfl hw dJ0_checkIndex_df160_9
theorem nc_schr : ∀ i, i < 5 → ∀ j, j < nc_sn i → ((nc_sc i j &&& 255).toUInt32 % 65536).toInt32 = nc_sc i j ∧ narrow .char (.int (nc_sc i j)) = .int (nc_sc i j) := by decide +kernel
theorem nc_snlt : ∀ i, i < 5 → nc_sn i < 2 ^ 31 := by decide +kernel
theorem nc_in_lt {x : Int32} {n : Nat} (hn : n < 2 ^ 31) (h : vp_in x n) : ¬ x < 0 ∧ x < Int32.ofNat n := by
  obtain ⟨j, hj, rfl⟩ := vp_in_of h hn
  exact ⟨nI_pos (by omega), nI_lt hj hn⟩
abbrev rm_J1_charAt : Room := { frames := 2, cells := 0, slots := 0, locals := 80 }
theorem c_J1_charAt (l : Launch) {G : nc_G} {K : nc_K} {o j : Nat} (h0 : o < 5) (mi : nc_Mem) (a1 : Int32) (hin : vp_in a1 (nc_sn o)) (hj : j = a1.toNatClampNeg) : nc_M l yJ1_charAt_3b067 cJ1_charAt_3b067 2 (some .char) rm_J1_charAt 0 0 G K K [.ref (nc_sv G o), .int a1] mi mi (some (.int (nc_sc o j))) := by
  have hlt : j < nc_sn o := by rw [hj]; exact Nat.not_le.mp fun q => hin (Or.inr q)
  obtain ⟨hc1, hc2⟩ := nc_schr o h0 j hlt
  obtain ⟨hi0, hi1⟩ := nc_in_lt (nc_snlt o h0) hin
  refine nc_meet_i (by decide) (Nat.le_of_ble_eq_true rfl) ?_
  intro p e s m args below meth c Q H locs ls cx hret hw hl
  have cx : nc_C p s m args c cJ1_charAt_3b067 2 RJ1 G := cx
  have hl : lv_has ls 2 [(0, .ref (nc_sv G o)), (1, .int a1)] := hl
  have hx := cx.1
  have hb := cx.2.1
  refine lv_iload_n hx hb dJ1_charAt_3b067_0 rfl (lv_at hl 1 rfl) ?_
  refine lv_aload_n hx hb dJ1_charAt_3b067_1 rfl (lv_at hl 0 rfl) ?_
  refine nc_slen cx hw h0 dJ1_charAt_3b067_2 ?_
  refine nc_callSv cx hw lk_J1_9 (c_J0_checkIndex l mi a1 (Int32.ofNat (nc_sn o)) hi0 hi1) rfl hl.1 rfl (Nat.le_of_ble_eq_true rfl) ⟨rfl, rfl, Nat.le_of_ble_eq_true rfl, Nat.le_of_ble_eq_true rfl⟩ dJ1_charAt_3b067_3 (fun H locs hw => ?_)
  refine lv_aload_n hx hb dJ1_charAt_3b067_6 rfl (lv_at hl 0 rfl) ?_
  refine lv_iload_n hx hb dJ1_charAt_3b067_7 rfl (lv_at hl 1 rfl) ?_
  refine nc_sbld cx hw h0 hin hj dJ1_charAt_3b067_8 ?_
  refine lv_sipush (v := 255) hx hb dJ1_charAt_3b067_9 (by decide) ?_
  refine lv_iand hx hb dJ1_charAt_3b067_12 ?_
  refine lv_i2c (v := nc_sc o j) hx hb dJ1_charAt_3b067_13 hc1 ?_
  exact nc_rtp hret rfl hc2 hw dJ1_charAt_3b067_14
abbrev rm_J0_charAt : Room := { frames := 3, cells := 0, slots := 0, locals := 120 }
theorem c_J0_charAt (l : Launch) {G : nc_G} {K : nc_K} {o j : Nat} (h0 : o < 5) (mi : nc_Mem) (a1 : Int32) (hin : vp_in a1 (nc_sn o)) (hj : j = a1.toNatClampNeg) : nc_M l yJ0_charAt_5068e cJ0_charAt_5068e 2 (some .char) rm_J0_charAt 0 0 G K K [.ref (nc_str G o), .int a1] mi mi (some (.int (nc_sc o j))) := by
  have hlt : j < nc_sn o := by rw [hj]; exact Nat.not_le.mp fun q => hin (Or.inr q)
  obtain ⟨hc1, hc2⟩ := nc_schr o h0 j hlt
  refine nc_meet_i (by decide) (Nat.le_of_ble_eq_true rfl) ?_
  intro p e s m args below meth c Q H locs ls cx hret hw hl
  have cx : nc_C p s m args c cJ0_charAt_5068e 2 RJ0 G := cx
  have hl : lv_has ls 2 [(0, .ref (nc_str G o)), (1, .int a1)] := hl
  have hx := cx.1
  have hb := cx.2.1
  refine lv_aload_n hx hb dJ0_charAt_5068e_0 rfl (lv_at hl 0 rfl) ?_
  refine nc_callTi cx hw lk_J0_492 (c_J0_isLatin1 l h0 mi) h0 rfl hl.1 rfl (Nat.le_of_ble_eq_true rfl) ⟨rfl, rfl, Nat.le_of_ble_eq_true rfl, Nat.le_of_ble_eq_true rfl⟩ dJ0_charAt_5068e_1 (fun H locs hw => ?_)
  refine lv_if_eq (tgt := 16) hx hb dJ0_charAt_5068e_4 (by decide) (fun c1 => absurd c1 (by decide)) (fun c1 => ?_)
  refine lv_aload_n hx hb dJ0_charAt_5068e_7 rfl (lv_at hl 0 rfl) ?_
  refine nc_sval cx hw h0 fl_J0_9 dJ0_charAt_5068e_8 ?_
  refine lv_iload_n hx hb dJ0_charAt_5068e_11 rfl (lv_at hl 1 rfl) ?_
  refine nc_callSi cx hw lk_J0_495 (c_J1_charAt l h0 mi a1 hin hj) rfl hl.1 rfl (Nat.le_of_ble_eq_true rfl) ⟨rfl, rfl, Nat.le_of_ble_eq_true rfl, Nat.le_of_ble_eq_true rfl⟩ dJ0_charAt_5068e_12 (fun H locs hw => ?_)
  exact nc_rtp hret rfl hc2 hw dJ0_charAt_5068e_15
