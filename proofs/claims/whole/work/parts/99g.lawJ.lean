-- THE LAW: calls that may make an object, and what stays over the loop
section NCL
variable {p : Program} {l : Launch} {e : Env} {R : Room} {s : State} {m : MethodId} {args : Array Value} {below : List Frame} {meth : Method} {c : Code} {H : Heap} {locs : List Loc} {cells slots : Nat} {Q : State → Prop}
variable {cc : ByteArray} {pc nL : Nat} {ls : Array Slot} {rest : List Value} {own : String} {G : nc_G} {K : nc_K} {mi : nc_Mem}
theorem nc_dallX {index maxL n b ci N : Nat} {C : String} {T : u_T} {y : MethodName} {bytes : ByteArray} {ret : Option FieldType} {rm : Room} {As : List Value} {mi' : nc_Mem} {r : Int32} {st0 : List Value} {PK : nc_K → Prop} {mc ms : Nat} (cx : nc_C p s m args c cc nL own G) (hw : nc_W G K mi H locs) (hl : nc_LV own index C y bytes maxL ret n) (hM : nc_MX l y bytes maxL ret rm mc ms G K PK (.ref b :: As) mi mi' (some (.int r))) (hc : nc_cl[ci]? = some (C, T, N)) (ha : nc_Is G K b (ci, N))
    (hn : As.length = n) (hsz : ls.size = nL) (hst : st0 = As.reverse ++ .ref b :: rest) (hW : (rest.map fun v => v.category).sum ≤ 8) (hR : rm.cells = mc ∧ rm.slots = ms ∧ rm.frames + 1 ≤ R.frames ∧ 8 + (maxL + 11) + rm.locals ≤ R.locals) (hcs : cells + mc ≤ R.cells ∧ slots + ms ≤ R.slots) (hdg : decode cc pc = .ok (.invokevirtual index, 3))
    (kk : ∀ (K' : nc_K) (H1 : Heap) (locs1 : List Loc), PK K' → nc_W G K' mi' H1 locs1 → W p l e R s m args below meth c H1 locs1 (cells + mc) (slots + ms) Q (F0 m (pc + 3) ls (.int r :: rest))) : W p l e R s m args below meth c H locs cells slots Q (F0 m pc ls st0) := by
  obtain ⟨hx, hb, hml, hown, hts, hE⟩ := cx
  have hK := hE.1
  obtain ⟨cell, q1, q2, q3, q4⟩ := (nc_cell_obj (nc_cl_lt hc)).mp (nc_at_cell hw ha)
  have hrun := va_runV (Ts := nc_U) (g := F0 m pc ls st0) (locs := locs) (cells := cells) (slots := slots) (below := below) (meth := meth) (rest := rest) (H := H) (e := e) ⟨hx, hb, hml, hown, hts⟩ hM (cwV (R := R) n hts (nc_LV_good hl) rfl hR.1 hR.2.1 hl.2.2.2.2.2 ⟨hR.2.2.1, hR.2.2.2⟩)
    ⟨nc_blind G K mi _, ⟨cell, q1, by rw [q3]; rfl, by rw [q2]; exact (hK.1 ci _ hc).2.1⟩, fun U hU hW => ⟨rfl, by rw [hU]; exact nc_W_locs hw (fun _ h => by cases h), nc_E_warm hW hE⟩⟩
    rfl hn hsz hst (lv_room hW) hdg hcs
  intro T0 hT X
  obtain ⟨v, st₀, t, T', L, h0, X', hL, e1, e2, ⟨hv, K', hPK, hW'⟩, st⟩ := hrun T0 hT X
  cases hv
  obtain ⟨t2, a1, b1⟩ := kk K' T'.heap (locs ++ L) hPK (nc_W_locs (by rw [e1]; exact hW') (fun q hq => by
    rcases List.mem_append.mp hq with h | h
    · exact hw.2.2.2.2.2.2 q h
    · exact hL q h)) T' rfl X'
  exact ⟨t2, st t2 a1, b1⟩
theorem nc_S_of (hG : G.2.2.1 = s.heap.size ∧ G.2.2.2.1 = s.heap) (hw : nc_W G K mi H locs) : va_S (fun q : Nat => s.heap.size ≤ q) s.heap H locs := by
  obtain ⟨h1, h2, h3, h4, h5, h6, h7⟩ := hw
  rw [hG.1] at h3 h4 h7
  rw [hG.2] at h4
  exact ⟨by rw [h1]; exact h3, fun q hq _ => h4 q hq, h7⟩
end NCL
def nc_J (G : nc_G) (K : nc_K) (X M : Nat) : Prop := nc_LNC G K X ∧ nc_LModel G K M ∧ X + 82 ≤ M ∧ (∀ f, f = 12 ∨ f = 13 ∨ f = 17 → ¬ K.2.2 M f = 0 → M + 54 ≤ K.2.2 M f ∧ nc_LModel G K (K.2.2 M f)) ∧ (∀ f g, (f = 12 ∨ f = 13 ∨ f = 17) → (g = 12 ∨ g = 13 ∨ g = 17) → ¬ f = g → ¬ K.2.2 M f = 0 → ¬ K.2.2 M g = 0 → K.2.2 M f + 54 ≤ K.2.2 M g ∨ K.2.2 M g + 54 ≤ K.2.2 M f)
theorem nc_J_ka {G : nc_G} {K : nc_K} {X M f : Nat} (hJ : nc_J G K X M) (hB : G.2.2.1 ≤ K.1) (hf : f = 12 ∨ f = 13 ∨ f = 17) : nc_J G (nc_ka K M f) X M ∧ (nc_ka K M f).2.2 M f = K.1 ∧ ∀ g, ¬ g = f → (nc_ka K M f).2.2 M g = K.2.2 M g := by
  obtain ⟨j1, j2, j3, j4, j5⟩ := hJ
  have hM : M + 53 < K.1 := (lModel_best_L j2).2.1
  have old : ∀ g, ¬ g = f → (nc_ka K M f).2.2 M g = K.2.2 M g := fun g hg => ka_old (by omega) (fun z => hg z.2)
  have new : (nc_ka K M f).2.2 M f = K.1 := ka_self
  have szz : ∀ z, nc_LModel G K z → z + 53 < K.1 := fun z h => (lModel_best_L h).2.1
  refine ⟨⟨ext_NC j1 (fun _ _ h => ka_is h) (fun a k h1 h2 => ka_old (by omega) (by omega)), ka_o j2 hf rfl, j3, fun g hg h0 => ?_, fun g h hg hh hne g0 h0 => ?_⟩, new, old⟩
  · by_cases e : g = f
    · subst e
      rw [new]
      exact ⟨by omega, ka_L hB (by omega)⟩
    · rw [old g e] at h0 ⊢
      obtain ⟨q1, q2⟩ := j4 g hg h0
      have := szz _ q2
      exact ⟨q1, ext_Model q2 (fun _ _ h => ka_is h) (fun a k' h1 h2 h3 => ka_old (by omega) (by omega))⟩
  · by_cases e : g = f
    · have e' : ¬ h = f := fun z => hne (e.trans z.symm)
      subst e
      rw [old h e'] at h0 ⊢
      rw [new]
      have := szz _ (j4 h hh h0).2
      omega
    · by_cases e' : h = f
      · subst e'
        rw [old g e] at g0 ⊢
        rw [new]
        have := szz _ (j4 g hg g0).2
        omega
      · rw [old g e] at g0 ⊢
        rw [old h e'] at h0 ⊢
        exact j5 g h hg hh hne g0 h0
theorem nc_J_PK {G : nc_G} {K K' : nc_K} {X M f : Nat} (hJ : nc_J G K X M) (hB : G.2.2.1 ≤ K.1) (hf : f = 13 ∨ f = 17) (h : nc_PK K M f K') : nc_J G K' X M ∧ K'.2.2 M 12 = K.2.2 M 12 := by
  rcases h with h | ⟨-, h⟩
  · rw [h]
    exact ⟨hJ, rfl⟩
  · obtain ⟨a, -, b⟩ := nc_J_ka (f := f) hJ hB (by omega)
    rw [h]
    exact ⟨a, b 12 (by omega)⟩
theorem nc_J_PKi {G : nc_G} {K K' : nc_K} {X M : Nat} (hJ : nc_J G K X M) (hB : G.2.2.1 ≤ K.1) (h : nc_PKi K M 12 K') : nc_J G K' X M ∧ K'.2.2 M 12 = if K.2.2 M 12 = 0 then K.1 else K.2.2 M 12 := by
  by_cases c : K.2.2 M 12 = 0
  · obtain ⟨a, b, -⟩ := nc_J_ka (f := 12) hJ hB (by omega)
    rw [h.1 c, if_pos c]
    exact ⟨a, b⟩
  · rw [h.2 c, if_neg c]
    exact ⟨hJ, rfl⟩
theorem nc_J_z {G : nc_G} {K : nc_K} {X M : Nat} (hJ : nc_J G K X M) : ¬ K.2.2 M 12 = 0 → M + 54 ≤ K.2.2 M 12 := fun h => (hJ.2.2.2.1 12 (Or.inl rfl) h).1
theorem nc_J_L {G : nc_G} {K : nc_K} {X M f : Nat} (hJ : nc_J G K X M) (hf : f = 12 ∨ f = 13 ∨ f = 17) : ¬ K.2.2 M f = 0 → nc_LModel G K (K.2.2 M f) := fun h => (hJ.2.2.2.1 f hf h).2
theorem nc_J_tr {G : nc_G} {K : nc_K} {X M f : Nat} (hJ : nc_J G K X M) (hf : f = 12 ∨ f = 13 ∨ f = 17) : M + 54 ≤ (if K.2.2 M f = 0 then K.1 else K.2.2 M f) := by
  split
  · have : M + 53 < K.1 := (lModel_best_L hJ.2.1).2.1
    omega
  · rename_i h
    exact (hJ.2.2.2.1 f hf h).1
theorem nc_J_ap {G : nc_G} {K : nc_K} {X M f : Nat} (hJ : nc_J G K X M) (hf : f = 13 ∨ f = 17) : ¬ K.2.2 M 12 = 0 → K.2.2 M 12 + 54 ≤ (if K.2.2 M f = 0 then K.1 else K.2.2 M f) ∨ (if K.2.2 M f = 0 then K.1 else K.2.2 M f) + 54 ≤ K.2.2 M 12 := by
  intro h
  have hz := nc_J_L hJ (f := 12) (Or.inl rfl) h
  have : K.2.2 M 12 + 53 < K.1 := (lModel_best_L hz).2.1
  split
  · left; omega
  · rename_i h'
    exact hJ.2.2.2.2 12 f (Or.inl rfl) (by omega) (by omega) h h'
theorem nc_INV_s {n X M z : Nat} {mi : nc_Mem} (inv : nc_INV n X M z mi) : nc_INV (n + 1) X M z mi := by
  obtain ⟨A, c1, c2, c3, c4, c6, c5⟩ := inv
  exact ⟨A, c1, c2, nc_WF_mono c3 (Nat.le_succ n), c4, c6, nc_IMG_fr c5 (Nat.le_succ n) (fun _ _ _ => rfl)⟩
def nc_Kk (p : Program) (l : Launch) (e : Env) (s : State) (m : MethodId) (b : Nat) (below : List Frame) (meth : Method) (c : Code) (Q : State → Prop) (G : nc_G) (X M n : Nat) (x3 : Int32) (cells slots : Nat) : Prop := ∀ (K' : nc_K) (m2 : nc_Mem) (H1 : Heap) (locs1 : List Loc) (c1 s1 : Nat) (ls1 : Array Slot), nc_J G K' X M → nc_INV (n + 1) X M (K'.2.2 M 12) m2 → nc_W G K' m2 H1 locs1 → c1 ≤ cells + 54 → s1 ≤ slots + 467 → lv_has ls1 4 [(0, .ref b), (1, .ref X), (2, .ref M), (3, .int x3)] → W p l e room_1 s m #[Value.ref b] below meth c H1 locs1 c1 s1 Q (F0 m 955 ls1 [])
