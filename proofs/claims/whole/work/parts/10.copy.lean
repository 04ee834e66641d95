-- System.arraycopy of a whole int array onto another of the same length
def nc_cp (mi : nc_Mem) (a b n : Nat) : nc_Mem := fun a' k' => if a' = b ∧ k' < n then mi a k' else mi a' k'
theorem nc_w_acp : Cond.native arraycopyName ∈ nc_U ∧ Cond.static arraycopyName ∈ nc_U ∧ Cond.initialized "java/lang/System" ∈ nc_U := ⟨nc_w 480 (by decide +kernel) rfl, nc_w 479 (by decide +kernel) rfl, nc_w 83 (by decide +kernel) rfl⟩
section NCA
variable {p : Program} {l : Launch} {e : Env} {R : Room} {s : State} {m : MethodId} {args : Array Value} {below : List Frame} {meth : Method} {c : Code} {H : Heap} {locs : List Loc} {cells slots : Nat} {Q : State → Prop}
variable {cc : ByteArray} {pc nL : Nat} {ls : Array Slot} {rest : List Value} {own : String} {G : nc_G} {K : nc_K} {mi : nc_Mem}
theorem nc_acp {index a b N : Nat} {n : Int32} (cx : nc_C p s m args c cc nL own G) (hw : nc_W G K mi H locs) (hsz : ls.size = nL) (hm : Cond.methodLink own index arraycopyName ∈ nc_U) (ha : nc_Is G K a (9, N)) (hb : nc_Is G K b (9, N)) (hn0 : n.toNatClampNeg = N) (hn1 : ¬ n < 0)
    (hR : 1 ≤ R.frames ∧ (rest.map fun v => v.category).sum + (nativeFrameWords "java/lang/System" "arraycopy" 5 + 11) ≤ R.locals) (hdg : decode cc pc = .ok (.invokestatic index, 3))
    (kk : ∀ (mi1 : nc_Mem) (H1 : Heap) (locs1 : List Loc), mi1 = nc_cp mi a b N → nc_W G K mi1 H1 locs1 → W p l e R s m args below meth c H1 locs1 0 0 Q (F0 m (pc + 3) ls rest)) : W p l e R s m args below meth c H locs 0 0 Q (F0 m pc ls (.int n :: .int 0 :: .ref b :: .int 0 :: .ref a :: rest)) := by
  obtain ⟨hx, hbc, hml, hown, hts, hE⟩ := cx
  have hK := hE.1
  have nn : n.toInt = (n.toNatClampNeg : Int) := by
    have hz0 : (0 : Int) ≤ n.toInt := by
      have := Int32.not_lt.mp hn1
      simpa using Int32.le_iff_toInt_le.mp this
    show n.toInt = ((n.toInt.toNat : Nat) : Int)
    omega
  have z0 : (0 : Int32).toInt = 0 := by decide
  have c0 : (0 : Int32).toNatClampNeg = 0 := by decide
  intro T hT X
  have hc0 := nc_cell_int.mp (nc_at_cell hw ha)
  have hc1 := nc_cell_int.mp (nc_at_cell hw hb)
  obtain ⟨-, k0, hk0, cm0, hkk0⟩ := (hK.2 0 _ rfl).1 N (fun j => .int (mi a j))
  obtain ⟨vm', X', step⟩ := X.arraycopy hx hown (hts _ hm) (hts _ nc_w_acp.1) (hts _ nc_w_acp.2.1) (hts _ nc_w_acp.2.2) (src := a) (dst := b) (cs := arrV (G.2.1 9) N (fun j => .int (mi a j))) (cd := arrV (G.2.1 9) N (fun j => .int (mi b j))) (srcPos := 0) (destPos := 0) (n := n) (by rw [hT]; exact hc0) (by rw [hT]; exact hc1)
    (fun _ h => by cases h) (fun _ h => by cases h) (fun h => by cases h) (fun h => by cases h) hk0 hk0 hkk0 hkk0 (by simp [refKind]) (by decide) (by decide) hn1
    (by rw [z0, nn]; show ¬ _ > ((arrV (G.2.1 9) N (fun j => .int (mi a j))).slots.size : Int); rw [arrV_size]; omega)
    (by rw [z0, nn]; show ¬ _ > ((arrV (G.2.1 9) N (fun j => .int (mi b j))).slots.size : Int); rw [arrV_size]; omega)
    (fun vm₁ _ i hi => by
      have e : (arrV (G.2.1 9) N (fun j => .int (mi a j))).slots.getD ((0 : Int32).toNatClampNeg + i) .null = .int (mi a ((0 : Int32).toNatClampNeg + i)) := by
        rw [Array.getD_eq_getD_getElem?, arrV_read _ _ (by omega)]
        rfl
      refine ⟨?_, ?_⟩
      · rw [e]
        rfl
      · rw [e]
        exact trivial)
    (g := F0 m pc ls (.int n :: .int 0 :: .ref b :: .int 0 :: .ref a :: rest)) rfl (by rw [hml, hsz]) (rest := rest) rfl (by rw [hbc]; exact hdg) hR.1 (by show 2 * 0 + _ + _ ≤ _; omega)
  have e1 : copied (arrV (G.2.1 9) N (fun j => .int (mi a j))) (arrV (G.2.1 9) N (fun j => .int (mi b j))) 0 0 n = arrV (G.2.1 9) N (fun j => .int (va_cpy (mi a) (mi b) (0 : Int32).toNatClampNeg (0 : Int32).toNatClampNeg n.toNatClampNeg j)) := va_copied (fun z => .int z) (G.2.1 9) (G.2.1 9) (mi a) (mi b) (by omega)
  rw [e1] at X' step
  rw [c0, hn0] at X' step
  have hl : b < H.size := (Array.getElem?_eq_some_iff.mp hc1).1
  generalize hcl : arrV (G.2.1 9) N (fun j => .int (va_cpy (mi a) (mi b) 0 0 N j)) = cl at X' step
  have hheap : ((T.setVm vm').setCell b cl).heap = H.setIfInBounds b cl := by rw [← hT]; rfl
  have oq : ∀ q : Nat, q ≠ b → (H.setIfInBounds b cl)[q]? = H[q]? := fun q hq => by simp [Array.getElem?_setIfInBounds, Ne.symm hq]
  have hself : (H.setIfInBounds b cl)[b]? = some cl := by simp [Array.getElem?_setIfInBounds, hl]
  have hrow : nc_cp mi a b N b = fun j => va_cpy (mi a) (mi b) 0 0 N j := by
    funext j
    simp only [nc_cp, va_cpy, true_and, Nat.zero_add, Nat.sub_zero, Nat.zero_le]
  have hoth : ∀ q, q ≠ b → nc_cp mi a b N q = mi q := fun q hq => by
    funext j
    simp [nc_cp, hq]
  obtain ⟨t, a1, b1⟩ := kk (nc_cp mi a b N) (H.setIfInBounds b cl) _ rfl ⟨by simp; exact hw.1, hw.2.1, hw.2.2.1, fun q hq => by rw [oq q (by have := hb.1; omega)]; exact hw.2.2.2.1 q hq, fun q h1 h2 => by
      by_cases hq : q = b
      · subst hq
        rw [hb.2.2, hrow]
        refine nc_cell_int.mpr ?_
        rw [hself, ← hcl]
      · rw [hoth q hq]
        exact nc_cell_kept (hw.2.2.2.2.1 q h1 h2) (oq q hq), fun q j hq => by
      rw [hoth q (by have := hb.2.1; omega)]
      exact hw.2.2.2.2.2.1 q j hq, fun q hq => by
      rcases List.mem_append.mp hq with h | h
      · exact hw.2.2.2.2.2.2 q h
      · obtain ⟨z, -, hz⟩ := List.mem_map.mp h
        rw [← hz]
        exact hb.1⟩ _ hheap X'
  exact ⟨t, step t a1, b1⟩
end NCA
