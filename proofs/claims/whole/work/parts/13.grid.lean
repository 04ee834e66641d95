-- new int[n][k]
theorem nc_outer (c : ClassId) (N h0 : Nat) : ∀ i : Nat, Jvm.Free.Multi.outerC c N h0 i = arrV c N (fun j => va_rf (if j < i then some (h0 + 1 + j) else none))
  | 0 => by
    show ({ cls := c, slots := Array.replicate N .null, vm := .none } : Cell) = _
    rw [arrV_new]
    refine congrArg (arrV c N) (funext fun j => ?_)
    simp [va_rf]
  | i + 1 => by
    show (Jvm.Free.Multi.outerC c N h0 i).setSlot i (.ref (h0 + 1 + i)) = _
    rw [nc_outer c N h0 i, arrV_store]
    refine congrArg (arrV c N) (funext fun j => ?_)
    by_cases e : j = i
    · subst e
      simp [updV, va_rf]
    · by_cases h : j < i
      · simp [updV, e, h, Nat.lt_succ_of_lt h]
      · simp [updV, e, h, show ¬ j < i + 1 by omega]
section NCG
variable {p : Program} {l : Launch} {e : Env} {R : Room} {s : State} {m : MethodId} {args : Array Value} {below : List Frame} {meth : Method} {c : Code} {H : Heap} {locs : List Loc} {cells slots : Nat} {Q : State → Prop}
variable {cc : ByteArray} {pc nL : Nat} {ls : Array Slot} {rest : List Value} {own : String} {G : nc_G} {K : nc_K} {mi : nc_Mem}
theorem nc_mna (cx : nc_C p s m args c cc nL own G) (hw : nc_W G K mi H locs) {n k : Int32} {N M index : Nat} (w1 : Cond.classLink own index "[[I" ∈ nc_U) (w2 : Cond.arrayClass .int ∈ nc_U) (hn : ¬ n < 0) (hk : ¬ k < 0) (hN : n.toNatClampNeg = N) (hM : k.toNatClampNeg = M) (hb1 : N * 4 ≤ 536870912) (hb2 : M * 4 ≤ 536870912) (hR : cells + (1 + N) ≤ R.cells ∧ slots + (N + N * M) ≤ R.slots) (hdg : decode cc pc = .ok (.multianewarray index 2, 4))
    (kk : ∀ (K1 : nc_K) (H1 : Heap), K1 = nc_kg K N M → nc_W G K1 mi H1 locs → W p l e R s m args below meth c H1 locs (cells + 1 + N) (slots + N + N * M) Q (F0 m (pc + 4) ls (.ref K.1 :: rest))) : W p l e R s m args below meth c H locs cells slots Q (F0 m pc ls (.int k :: .int n :: rest)) := by
  obtain ⟨hx, hb, hml, hown, hts, hE⟩ := cx
  have hK := hE.1
  subst hN
  subst hM
  intro T hT Xs
  obtain ⟨vm₁, cA, comp, -, fA, fC, hO, -, X', step⟩ := Xs.multianewarray2F (ty := .int) hx hown (hts _ w1) hE.2.2.2.2.2.2.2.2 (hts _ w2) (g := F0 m pc ls (.int k :: .int n :: rest)) rfl (by rw [hb]; exact hdg) rfl hn hk hb1 hb2 (by omega) rfl rfl hR.1 hR.2
  have hca : some (G.2.1 13) = some cA := (show s.vm.findClass ("[" ++ (FieldType.array .int).toString) = some (G.2.1 13) from (hK.2 4 _ rfl).2).symm.trans fA
  cases hca
  have hco : some (G.2.1 9) = some comp := (show s.vm.findClass ("[" ++ FieldType.int.toString) = some (G.2.1 9) from (hK.2 0 _ rfl).2).symm.trans fC
  cases hco
  generalize hF : Jvm.Free.Multi.fill (T.setVm vm₁) (G.2.1 13) (G.2.1 9) n.toNatClampNeg k.toNatClampNeg (defaultValue .int) n.toNatClampNeg = F at X' step
  have hTh : (T.setVm vm₁).heap = H := hT
  obtain ⟨f1, f2, -, -⟩ := Jvm.Free.Multi.fill_facts (T.setVm vm₁) (G.2.1 13) (G.2.1 9) n.toNatClampNeg k.toNatClampNeg (defaultValue .int) n.toNatClampNeg
  rw [hF, hTh] at f1 f2
  have hold : ∀ x : Nat, x < H.size → F.heap[x]? = H[x]? := fun x hx => by
    have := Jvm.Free.Multi.fill_old (T.setVm vm₁) (G.2.1 13) (G.2.1 9) n.toNatClampNeg k.toNatClampNeg (defaultValue .int) (a := x) (by rw [hTh]; exact hx) n.toNatClampNeg
    rw [hF, hTh] at this
    exact this
  have hrow : ∀ j : Nat, j < n.toNatClampNeg → F.heap[H.size + 1 + j]? = some (arrV (G.2.1 9) k.toNatClampNeg (fun _ => .int 0)) := fun j hj => by
    have := Jvm.Free.Multi.fill_inner (T.setVm vm₁) (G.2.1 13) (G.2.1 9) n.toNatClampNeg k.toNatClampNeg (defaultValue .int) n.toNatClampNeg j hj
    rw [hF, hTh] at this
    rw [this, ← arrV_new]
    rfl
  have hsz : H.size = K.1 := hw.1
  have hth : T.heap.size = K.1 := by rw [hT]; exact hsz
  obtain ⟨w1', w2', w3', w4', w5', w6', w7'⟩ := hw
  obtain ⟨t, a1, b1⟩ := kk _ F.heap rfl ⟨by rw [f1, hsz]; rfl, w2', by show G.2.2.1 ≤ K.1 + 1 + n.toNatClampNeg; omega, fun q hq => by rw [hold q (by omega)]; exact w4' q hq, fun b hb1 hb2 => by
      have hb2 : b < K.1 + 1 + n.toNatClampNeg := hb2
      show nc_cell G b (if b = K.1 then (13, n.toNatClampNeg) else if K.1 < b ∧ b < K.1 + 1 + n.toNatClampNeg then (9, k.toNatClampNeg) else K.2.1 b) (mi b) ((nc_kg K n.toNatClampNeg k.toNatClampNeg).2.2 b) F.heap
      by_cases e1 : b = K.1
      · subst e1
        rw [if_pos rfl]
        refine (nc_cell_ref (by decide)).mpr ?_
        rw [← hsz, f2, nc_outer, hsz]
        refine congrArg some (congrArg (arrV (G.2.1 13) n.toNatClampNeg) (funext fun j => ?_))
        by_cases hj : j < n.toNatClampNeg
        · simp [nc_kg, hj, va_rf]
          exact (nc_rv_pos (by omega)).symm
        · simp [nc_kg, hj, va_rf, (w6' K.1 j (Nat.le_refl _)).2]
          rfl
      · rw [if_neg e1]
        have hr0 : (nc_kg K n.toNatClampNeg k.toNatClampNeg).2.2 b = K.2.2 b := by funext j; simp [nc_kg, e1]
        rw [hr0]
        by_cases e2 : K.1 < b ∧ b < K.1 + 1 + n.toNatClampNeg
        · rw [if_pos e2]
          refine nc_cell_int.mpr ?_
          have hb3 : b = H.size + 1 + (b - K.1 - 1) := by omega
          rw [hb3, hrow _ (by omega), ← hb3]
          refine congrArg some (congrArg (arrV (G.2.1 9) k.toNatClampNeg) (funext fun j => ?_))
          rw [(w6' b j (by omega)).1]
        · rw [if_neg e2]
          exact nc_cell_kept (w5' b hb1 (by omega)) (hold b (by omega)), fun b j hb => by
      have hb : K.1 + 1 + n.toNatClampNeg ≤ b := hb
      have hr0 : (nc_kg K n.toNatClampNeg k.toNatClampNeg).2.2 b = K.2.2 b := by funext j; simp [nc_kg]; intro h; omega
      rw [hr0]
      exact w6' b j (by omega), w7'⟩ F rfl X'
  refine ⟨t, step t ?_, b1⟩
  rw [hth]
  exact a1
end NCG
