-- THE LAW: what holds at its entry
theorem lw_w {w : Cond} (i : Nat) (h : lw_tbl[i]? = some w) : w ∈ lw_tbl := List.mem_of_getElem? h
theorem nc_arrT {s : State} {c : ClassId} {k : Class} {comp : ClassId} {ty : FieldType} (h2 : s.vm.classes[c]? = some k) (h3 : k.kind = .array comp ty) : ArrOfT s c ty := fun _ _ => ⟨fun _ h => (by cases h), k, h2, comp, h3⟩
set_option maxRecDepth 100000 in
set_option maxHeartbeats 4000000 in
theorem nc_entry {s : State} {args : Array Value} (hts : ∀ w ∈ lw_tbl, w.before args s = true) (hgv : (Jvm.Cond.and given_1 narrow_1).before args s = true) : ∃ G : nc_G, G.2.2.1 = s.heap.size ∧ G.2.2.2.1 = s.heap ∧ nc_E G s := by
  have hfl := flat_of_before _ hgv
  have hA : ∀ a : Nat, a < s.heap.size → ¬ (fun q : Nat => s.heap.size ≤ q) a := fun a h => Nat.not_le.mpr h
  obtain ⟨c0, i0, k0⟩ := u_known (C := RX0) (T := TX0) (N := 2) (n := 2) hts (by decide +kernel) (hts _ (lw_w 322 (by decide +kernel)))
  obtain ⟨c1, i1, k1⟩ := u_known (C := RX1) (T := TX1) (N := 4) (n := 4) hts (by decide +kernel) (hts _ (lw_w 247 (by decide +kernel)))
  obtain ⟨c2, i2, k2⟩ := u_known (C := RX2) (T := TX2) (N := 8) (n := 8) hts (by decide +kernel) (hts _ (lw_w 269 (by decide +kernel)))
  obtain ⟨c3, i3, k3⟩ := u_known (C := RX3) (T := TX3) (N := 7) (n := 7) hts (by decide +kernel) (hts _ (lw_w 103 (by decide +kernel)))
  obtain ⟨c4, i4, k4⟩ := u_known (C := RX4) (T := TX4) (N := 10) (n := 10) hts (by decide +kernel) (hts _ (lw_w 142 (by decide +kernel)))
  obtain ⟨c5, i5, k5⟩ := u_known (C := RX5) (T := TX5) (N := 8) (n := 8) hts (by decide +kernel) (hts _ (lw_w 94 (by decide +kernel)))
  obtain ⟨c6, i6, k6⟩ := u_known (C := RX6) (T := TX6) (N := 3) (n := 3) hts (by decide +kernel) (hts _ (lw_w 276 (by decide +kernel)))
  obtain ⟨c7, i7, k7⟩ := u_known (C := RX7) (T := TX7) (N := 10) (n := 10) hts (by decide +kernel) (hts _ (lw_w 86 (by decide +kernel)))
  obtain ⟨c8, i8, k8⟩ := u_known (C := RX8) (T := TX8) (N := 28) (n := 28) hts (by decide +kernel) (hts _ (lw_w 849 (by decide +kernel)))
  obtain ⟨a9, q9, p9, f9, g9, h9⟩ := Cond.arrayClass_spec (hts (.arrayClass .int) (lw_w 141 (by decide +kernel)))
  have w3 : (Cond.arrayOver (.object RX3)).before args s = true := hts _ (lw_w 100 (by decide +kernel))
  have w4 : (Cond.arrayOver (.object RX4)).before args s = true := hts _ (lw_w 102 (by decide +kernel))
  have w6 : (Cond.arrayOver (.object RX6)).before args s = true := hts _ (lw_w 275 (by decide +kernel))
  have wA : (Cond.arrayOver (.array .int)).before args s = true := hts _ (lw_w 855 (by decide +kernel))
  obtain ⟨p10, a10, q10, f10, -, g10, h10, n10⟩ := Cond.arrayOver_spec w3
  obtain ⟨p11, a11, q11, f11, -, g11, h11, n11⟩ := Cond.arrayOver_spec w4
  obtain ⟨p12, a12, q12, f12, -, g12, h12, n12⟩ := Cond.arrayOver_spec w6
  have wA' : nc_AOA s := wA
  obtain ⟨p13, a13, q13, f13, -, g13, h13, n13⟩ := arrayOverA_spec wA'
  obtain ⟨adK, adV, hS, hT⟩ := vk_Sof (args := args) (s := s) (N := 5) (tm := fun i => Term.string "NobodyCarries$Letters" (56 + 2 * i)) (len := nc_sl) (byt := nc_sb) (A := fun q => s.heap.size ≤ q) (by decide)
    (fun i hi => by rcases (show i = 0 ∨ i = 1 ∨ i = 2 ∨ i = 3 ∨ i = 4 by omega) with rfl | rfl | rfl | rfl | rfl <;> exact hfl _ (by decide +kernel))
    (fun i hi => by rcases (show i = 0 ∨ i = 1 ∨ i = 2 ∨ i = 3 ∨ i = 4 by omega) with rfl | rfl | rfl | rfl | rfl <;> exact hfl _ (by decide +kernel))
    (fun i hi => by rcases (show i = 0 ∨ i = 1 ∨ i = 2 ∨ i = 3 ∨ i = 4 by omega) with rfl | rfl | rfl | rfl | rfl <;> exact hfl _ (by decide +kernel))
    (fun i hi => by rcases (show i = 0 ∨ i = 1 ∨ i = 2 ∨ i = 3 ∨ i = 4 by omega) with rfl | rfl | rfl | rfl | rfl <;> exact hfl _ (by decide +kernel))
    (fun i hi => by
      rcases (show i = 0 ∨ i = 1 ∨ i = 2 ∨ i = 3 ∨ i = 4 by omega) with rfl | rfl | rfl | rfl | rfl
      · intro j hj
        have hj : j < 2 := hj
        rcases (show j = 0 ∨ j = 1 by omega) with rfl | rfl <;> exact hfl _ (by decide +kernel)
      · intro j hj
        have hj : j < 5 := hj
        rcases (show j = 0 ∨ j = 1 ∨ j = 2 ∨ j = 3 ∨ j = 4 by omega) with rfl | rfl | rfl | rfl | rfl <;> exact hfl _ (by decide +kernel)
      · intro j hj
        have hj : j < 9 := hj
        rcases (show j = 0 ∨ j = 1 ∨ j = 2 ∨ j = 3 ∨ j = 4 ∨ j = 5 ∨ j = 6 ∨ j = 7 ∨ j = 8 by omega) with rfl | rfl | rfl | rfl | rfl | rfl | rfl | rfl | rfl <;> exact hfl _ (by decide +kernel)
      · intro j hj
        have hj : j < 11 := hj
        rcases (show j = 0 ∨ j = 1 ∨ j = 2 ∨ j = 3 ∨ j = 4 ∨ j = 5 ∨ j = 6 ∨ j = 7 ∨ j = 8 ∨ j = 9 ∨ j = 10 by omega) with rfl | rfl | rfl | rfl | rfl | rfl | rfl | rfl | rfl | rfl | rfl <;> exact hfl _ (by decide +kernel)
      · intro j hj
        exact absurd hj (Nat.not_lt_zero _))
    (fun i j hi hj hne => by
      rcases (show i = 0 ∨ i = 1 ∨ i = 2 ∨ i = 3 ∨ i = 4 by omega) with rfl | rfl | rfl | rfl | rfl <;> rcases (show j = 0 ∨ j = 1 ∨ j = 2 ∨ j = 3 ∨ j = 4 by omega) with rfl | rfl | rfl | rfl | rfl <;> first | exact absurd rfl hne | exact Or.inl (hfl _ (by decide +kernel)) | exact Or.inr (hfl _ (by decide +kernel))) hA
  refine ⟨((fun k => [c0, c1, c2, c3, c4, c5, c6, c7, c8].getD k c0, fun k => [i0, i1, i2, i3, i4, i5, i6, i7, i8].getD k i0), (fun k => [a9, a10, a11, a12, a13].getD (k - 9) a9), s.heap.size, s.heap, adK, adV), rfl, rfl, ⟨fun k q hq => ?_, fun k q hq => ?_⟩, rfl, hS, fun i hi => ?_, ?_, ?_, fun q hq => ?_, fun C hC => ?_, wA'⟩
  · match k, hq with
    | 0, hq => cases hq; exact k0
    | 1, hq => cases hq; exact k1
    | 2, hq => cases hq; exact k2
    | 3, hq => cases hq; exact k3
    | 4, hq => cases hq; exact k4
    | 5, hq => cases hq; exact k5
    | 6, hq => cases hq; exact k6
    | 7, hq => cases hq; exact k7
    | 8, hq => cases hq; exact k8
    | k + 9, hq => simp [nc_cl] at hq
  · match k, hq with
    | 0, hq => cases hq; exact ⟨nc_arrT g9 h9, f9⟩
    | 1, hq => cases hq; exact ⟨nc_arrT g10 h10, ⟨q10, p10, g10, h10, f10, n10⟩⟩
    | 2, hq => cases hq; exact ⟨nc_arrT g11 h11, ⟨q11, p11, g11, h11, f11, n11⟩⟩
    | 3, hq => cases hq; exact ⟨nc_arrT g12 h12, ⟨q12, p12, g12, h12, f12, n12⟩⟩
    | 4, hq => cases hq; exact ⟨nc_arrT g13 h13, n13⟩
    | k + 5, hq => simp [nc_tys] at hq
  · have h2 := hT i hi
    refine vk_R.of (A := args) ?_ h2
    rcases (show i = 0 ∨ i = 1 ∨ i = 2 ∨ i = 3 ∨ i = 4 by omega) with rfl | rfl | rfl | rfl | rfl
    · exact hts _ (lw_w 397 (by decide +kernel))
    · exact hts _ (lw_w 398 (by decide +kernel))
    · exact hts _ (lw_w 399 (by decide +kernel))
    · exact hts _ (lw_w 400 (by decide +kernel))
    · exact hts _ (lw_w 401 (by decide +kernel))
  · exact va_Zof (args := args) (hts _ (lw_w 415 (by decide +kernel))) (hts _ (lw_w 79 (by decide +kernel))) (va_eqi (hfl _ (by decide +kernel))) hA
  · exact va_Zqof (args := args) (hts _ (lw_w 431 (by decide +kernel))) (hts _ (lw_w 81 (by decide +kernel))) (hfl _ (by decide +kernel)) hA
  · simp only [nc_nest, List.mem_cons, List.not_mem_nil, or_false] at hq
    rcases hq with rfl | rfl | rfl | rfl | rfl
    · exact va_Nw.of rfl (hts _ (lw_w 104 (by decide +kernel)))
    · exact va_Nw.of rfl (hts _ (lw_w 143 (by decide +kernel)))
    · exact va_Nw.of rfl (hts _ (lw_w 248 (by decide +kernel)))
    · exact va_Nw.of rfl (hts _ (lw_w 277 (by decide +kernel)))
    · exact va_Nw.of rfl (hts _ (lw_w 323 (by decide +kernel)))
  · simp only [List.mem_cons, List.not_mem_nil, or_false] at hC
    rcases hC with rfl | rfl | rfl
    · exact va_AO.of w3
    · exact va_AO.of w4
    · exact va_AO.of w6
