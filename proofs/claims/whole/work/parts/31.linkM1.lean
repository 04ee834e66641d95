abbrev rm_X8_comes : Room := { frames := 3, cells := 0, slots := 0, locals := 66 }
set_option maxRecDepth 100000 in
set_option maxHeartbeats 4000000 in
theorem c_X8_comes (l : Launch) {G : nc_G} {K : nc_K} {o : Nat} (h0 : nc_LModel G K o) (mi : nc_Mem) (a1 : Int32) (res : nc_Mem × Int32) (hf : f_X8_comes mi o a1 = some res) : nc_M l yX8_comes cX8_comes 2 (some .boolean) rm_X8_comes 0 0 G K K [.ref o, .int a1] mi res.1 (some (.int res.2)) := by
  refine nc_meet_i (by decide) (Nat.le_of_ble_eq_true rfl) ?_
  intro p e s m args below meth c Q H locs ls cx hret hw hl
  have cx : nc_C p s m args c cX8_comes 2 RX8 G := cx
  have hl : lv_has ls 2 [(0, .ref o), (1, .int a1)] := hl
  have hx := cx.1
  have hb := cx.2.1
  unfold f_X8_comes at hf
  refine lv_iload_n hx hb dX8_comes_0 rfl (lv_at hl 1 rfl) ?_
  by_cases c1 : a1 = 110
  · have hf := nc_ifp hf c1
    refine lv_lookup (tgt := 36) (off := 35) hx hb dX8_comes_1 (by decide) (by rw [c1]; decide) (by decide) ?_
    refine lv_aload_n hx hb dX8_comes_36 rfl (lv_at hl 0 rfl) ?_
    obtain ⟨q2, hq2, hf⟩ := nc_bi hf
    refine nc_callVi cx hw lk_X8_111 (c_X8_placesCome l h0 mi  q2 hq2) (ci := 8) rfl (lModel_is h0) rfl hl.1 rfl (Nat.le_of_ble_eq_true rfl) ⟨rfl, rfl, Nat.le_of_ble_eq_true rfl, Nat.le_of_ble_eq_true rfl⟩ dX8_comes_37 (fun H locs hw => ?_)
    obtain ⟨hz, hf⟩ := nc_zb_of hf
    exact nc_rpm hret hf hz hw dX8_comes_40
  · have hf := nc_ifn hf c1
    by_cases c3 : a1 = 112
    · have hf := nc_ifp hf c3
      refine lv_lookup (tgt := 46) (off := 45) hx hb dX8_comes_1 (by decide) (by rw [c3]; decide) (by decide) ?_
      refine lv_aload_n hx hb dX8_comes_46 rfl (lv_at hl 0 rfl) ?_
      obtain ⟨q4, hq4, hf⟩ := nc_bi hf
      refine nc_callVi cx hw lk_X8_117 (c_X8_personComes l h0 mi  q4 hq4) (ci := 8) rfl (lModel_is h0) rfl hl.1 rfl (Nat.le_of_ble_eq_true rfl) ⟨rfl, rfl, Nat.le_of_ble_eq_true rfl, Nat.le_of_ble_eq_true rfl⟩ dX8_comes_47 (fun H locs hw => ?_)
      obtain ⟨hz, hf⟩ := nc_zb_of hf
      exact nc_rpm hret hf hz hw dX8_comes_50
    · have hf := nc_ifn hf c3
      by_cases c5 : a1 = 119
      · have hf := nc_ifp hf c5
        refine lv_lookup (tgt := 41) (off := 40) hx hb dX8_comes_1 (by decide) (by rw [c5]; decide) (by decide) ?_
        refine lv_aload_n hx hb dX8_comes_41 rfl (lv_at hl 0 rfl) ?_
        obtain ⟨q6, hq6, hf⟩ := nc_bi hf
        refine nc_callVi cx hw lk_X8_114 (c_X8_wayComes l h0 mi  q6 hq6) (ci := 8) rfl (lModel_is h0) rfl hl.1 rfl (Nat.le_of_ble_eq_true rfl) ⟨rfl, rfl, Nat.le_of_ble_eq_true rfl, Nat.le_of_ble_eq_true rfl⟩ dX8_comes_42 (fun H locs hw => ?_)
        obtain ⟨hz, hf⟩ := nc_zb_of hf
        exact nc_rpm hret hf hz hw dX8_comes_45
      · have hf := nc_ifn hf c5
        refine lv_lookup (tgt := 51) (off := 50) hx hb dX8_comes_1 (by decide) (by rw [lv_osw c1 (by decide), lv_osw c3 (by decide), lv_osw c5 (by decide)]; rfl) (by decide) ?_
        refine lv_aload_n hx hb dX8_comes_51 rfl (lv_at hl 0 rfl) ?_
        obtain ⟨q7, hq7, hf⟩ := nc_bi hf
        refine nc_callVi cx hw lk_X8_120 (c_X8_thingComes l h0 mi  q7 hq7) (ci := 8) rfl (lModel_is h0) rfl hl.1 rfl (Nat.le_of_ble_eq_true rfl) ⟨rfl, rfl, Nat.le_of_ble_eq_true rfl, Nat.le_of_ble_eq_true rfl⟩ dX8_comes_52 (fun H locs hw => ?_)
        obtain ⟨hz, hf⟩ := nc_zb_of hf
        exact nc_rpm hret hf hz hw dX8_comes_55
abbrev rm_X8_copyAll : Room := { frames := 0, cells := 0, slots := 0, locals := 0 }
set_option maxRecDepth 100000 in
set_option maxHeartbeats 4000000 in
theorem c_X8_copyAll (l : Launch) {G : nc_G} {K : nc_K} {r0 n0 k0 r1 n1 k1 : Nat} (h0 : nc_LGrid G K r0 n0 k0) (h1 : nc_LGrid G K r1 n1 k1) (mi : nc_Mem)  (res : nc_Mem) (hf : f_X8_copyAll mi r0 n0 k0 r1 n1 k1 = some res) : nc_M l yX8_copyAll cX8_copyAll 4 none rm_X8_copyAll 0 0 G K K [.ref r0, .ref r1] mi res none := by
  refine nc_meet_v (by decide) (Nat.le_of_ble_eq_true rfl) ?_
  intro p e s m args below meth c Q H locs ls cx hret hw hl
  have cx : nc_C p s m args c cX8_copyAll 4 RX8 G := cx
  have hl : lv_has ls 4 [(0, .ref r0), (1, .ref r1)] := hl
  have hx := cx.1
  have hb := cx.2.1
  unfold f_X8_copyAll at hf
  refine lv_iconst (v := 0) hx hb dX8_copyAll_0 (by decide) ?_
  refine lv_istore_n (lv' := [(2, .int 0), (0, .ref r0), (1, .ref r1)]) hx hb dX8_copyAll_1 rfl hl (by decide) rfl (fun ls hl => ?_)
  refine nc_loop_w (P := fun κ : Int32 → nc_Mem → Option (nc_Mem) => ∀ (x1 : Int32) (mi2 : nc_Mem), κ x1 mi2 = some res → ∀ (H : Heap) (locs : List Loc) (ls : Array Slot), nc_W G K mi2 H locs → lv_has ls 4 [(0, .ref r0), (1, .ref r1), (2, .int x1)] → W p l e rm_X8_copyAll s m args below meth c H locs 0 0 Q (F0 m 2 ls [])) ?_ ?_ 200 _ _ hf _ _ _ hw (lv_sub hl [1, 2, 0] rfl)
  · intro x1 mi2 hf; exact absurd hf (by intro q; cases q)
  · intro rc3 ihrc3 x1 mi2 hf H locs ls hw hl
    unfold B_X8_copyAll_2 at hf
    refine lv_iload_n hx hb dX8_copyAll_2 rfl (lv_at hl 2 rfl) ?_
    refine lv_aload_n hx hb dX8_copyAll_3 rfl (lv_at hl 0 rfl) ?_
    refine nc_alenr (v := (Int32.ofNat n0)) cx hw (by decide) (h0).1 rfl dX8_copyAll_4 ?_
    refine lv_icmp_ge (tgt := 40) hx hb dX8_copyAll_5 (by decide) (fun c4 => ?_) (fun c4 => ?_)
    · have hf := nc_ifp hf c4
      exact nc_vpm hret hf hw dX8_copyAll_40
    · have hf := nc_ifn hf c4
      refine lv_iconst (v := 0) hx hb dX8_copyAll_8 (by decide) ?_
      refine lv_istore_n (lv' := [(3, .int 0), (0, .ref r0), (1, .ref r1), (2, .int x1)]) hx hb dX8_copyAll_9 rfl hl (by decide) rfl (fun ls hl => ?_)
      refine nc_loop_w (P := fun κ : Int32 → nc_Mem → Option (nc_Mem) => ∀ (x5 : Int32) (mi6 : nc_Mem), κ x5 mi6 = some res → ∀ (H : Heap) (locs : List Loc) (ls : Array Slot), nc_W G K mi6 H locs → lv_has ls 4 [(0, .ref r0), (1, .ref r1), (2, .int x1), (3, .int x5)] → W p l e rm_X8_copyAll s m args below meth c H locs 0 0 Q (F0 m 10 ls [])) ?_ ?_ 200 _ _ hf _ _ _ hw (lv_sub hl [1, 2, 3, 0] rfl)
      · intro x5 mi6 hf; exact absurd hf (by intro q; cases q)
      · intro rc7 ihrc7 x5 mi6 hf H locs ls hw hl
        unfold B_X8_copyAll_10 at hf
        refine lv_iload_n hx hb dX8_copyAll_10 rfl (lv_at hl 3 rfl) ?_
        refine lv_aload_n hx hb dX8_copyAll_11 rfl (lv_at hl 0 rfl) ?_
        refine lv_iload_n hx hb dX8_copyAll_12 rfl (lv_at hl 2 rfl) ?_
        obtain ⟨j8, ej8, ij8, lj8, hf⟩ := nc_ix hf
        refine nc_ald cx hw (by decide) (h0).1 ij8 ej8 ((h0).2 j8 lj8).1 ((h0).2 j8 lj8).2 dX8_copyAll_13 ?_
        refine nc_alen (v := (Int32.ofNat k0)) cx hw ((h0).2 j8 lj8).2 rfl dX8_copyAll_14 ?_
        refine lv_icmp_ge (tgt := 34) hx hb dX8_copyAll_15 (by decide) (fun c9 => ?_) (fun c9 => ?_)
        · have hf := nc_ifp hf c9
          obtain ⟨x10, ex10⟩ : ∃ y : Int32, y = x1 + 1 := ⟨_, rfl⟩
          have hf := nc_let_at hf ex10
          refine lv_iinc (v := x10) (lv' := [(2, .int x10), (0, .ref r0), (1, .ref r1), (3, .int x5)]) hx hb dX8_copyAll_34 hl (k := 2) rfl (by rw [ex10]; rfl) (by decide) rfl (fun ls hl => ?_)
          refine lv_goto (tgt := 2) hx hb dX8_copyAll_37 (by decide) ?_
          exact ihrc3 _ _ hf _ _ _ hw (lv_sub hl [1, 2, 0] rfl)
        · have hf := nc_ifn hf c9
          refine lv_aload_n hx hb dX8_copyAll_18 rfl (lv_at hl 1 rfl) ?_
          refine lv_iload_n hx hb dX8_copyAll_19 rfl (lv_at hl 2 rfl) ?_
          obtain ⟨j11, ej11, ij11, lj11, hf⟩ := nc_ix hf
          refine nc_ald cx hw (by decide) (h1).1 ij11 ej11 ((h1).2 j11 lj11).1 ((h1).2 j11 lj11).2 dX8_copyAll_20 ?_
          refine lv_iload_n hx hb dX8_copyAll_21 rfl (lv_at hl 3 rfl) ?_
          refine lv_aload_n hx hb dX8_copyAll_22 rfl (lv_at hl 0 rfl) ?_
          refine lv_iload_n hx hb dX8_copyAll_23 rfl (lv_at hl 2 rfl) ?_
          refine nc_ald cx hw (by decide) (h0).1 ij8 ej8 ((h0).2 j8 lj8).1 ((h0).2 j8 lj8).2 dX8_copyAll_24 ?_
          refine lv_iload_n hx hb dX8_copyAll_25 rfl (lv_at hl 3 rfl) ?_
          obtain ⟨j12, ej12, ij12, lj12, hf⟩ := nc_ix hf
          refine nc_ild cx hw ((h0).2 j8 lj8).2 ij12 ej12 dX8_copyAll_26 ?_
          obtain ⟨j13, ej13, ij13, lj13, hf⟩ := nc_ix hf
          refine nc_ist cx hw ((h1).2 j11 lj11).2 ij13 ej13 dX8_copyAll_27 (fun mi14 H locs emi14 hw => ?_)
          have hf := nc_let_at hf emi14
          obtain ⟨x15, ex15⟩ : ∃ y : Int32, y = x5 + 1 := ⟨_, rfl⟩
          have hf := nc_let_at hf ex15
          refine lv_iinc (v := x15) (lv' := [(3, .int x15), (0, .ref r0), (1, .ref r1), (2, .int x1)]) hx hb dX8_copyAll_28 hl (k := 3) rfl (by rw [ex15]; rfl) (by decide) rfl (fun ls hl => ?_)
          refine lv_goto (tgt := 10) hx hb dX8_copyAll_31 (by decide) ?_
          exact ihrc7 _ _ hf _ _ _ hw (lv_sub hl [1, 2, 3, 0] rfl)
abbrev rm_X8_takeFrom : Room := { frames := 1, cells := 0, slots := 0, locals := 23 }
set_option maxRecDepth 100000 in
set_option maxHeartbeats 4000000 in
theorem c_X8_takeFrom (l : Launch) {G : nc_G} {K : nc_K} {o r1 : Nat} (h0 : nc_LModel G K o) (h1 : nc_LModel G K r1) (mi : nc_Mem)  (res : nc_Mem) (hf : f_X8_takeFrom mi o r1 = some res) : nc_M l yX8_takeFrom cX8_takeFrom 2 none rm_X8_takeFrom 0 0 G K K [.ref o, .ref r1] mi res none := by
  refine nc_meet_v (by decide) (Nat.le_of_ble_eq_true rfl) ?_
  intro p e s m args below meth c Q H locs ls cx hret hw hl
  have cx : nc_C p s m args c cX8_takeFrom 2 RX8 G := cx
  have hl : lv_has ls 2 [(0, .ref o), (1, .ref r1)] := hl
  have hx := cx.1
  have hb := cx.2.1
  unfold f_X8_takeFrom at hf
  refine lv_aload_n hx hb dX8_takeFrom_0 rfl (lv_at hl 0 rfl) ?_
  refine lv_aload_n hx hb dX8_takeFrom_1 rfl (lv_at hl 1 rfl) ?_
  refine gi_X8_19 cx hw (lModel_is h1) dX8_takeFrom_2 ?_
  refine pi_X8_19 cx hw (lModel_is h0) dX8_takeFrom_5 (fun mi1 H locs emi1 hw => ?_)
  have hf := nc_let_at hf emi1
  refine lv_aload_n hx hb dX8_takeFrom_8 rfl (lv_at hl 1 rfl) ?_
  refine gr_X8_25 cx hw (lModel_is h1) (lModel_way h1) ((lModel_way_L h1)).1 dX8_takeFrom_9 ?_
  refine lv_aload_n hx hb dX8_takeFrom_12 rfl (lv_at hl 0 rfl) ?_
  refine gr_X8_25 cx hw (lModel_is h0) (lModel_way h0) ((lModel_way_L h0)).1 dX8_takeFrom_13 ?_
  obtain ⟨q2, hq2, hf⟩ := nc_bi hf
  refine nc_callSv cx hw lk_X8_246 (c_X8_copyAll l (lModel_way_L h1) (lModel_way_L h0) mi1  q2 hq2) rfl hl.1 rfl (Nat.le_of_ble_eq_true rfl) ⟨rfl, rfl, Nat.le_of_ble_eq_true rfl, Nat.le_of_ble_eq_true rfl⟩ dX8_takeFrom_16 (fun H locs hw => ?_)
  refine lv_aload_n hx hb dX8_takeFrom_19 rfl (lv_at hl 0 rfl) ?_
  refine lv_aload_n hx hb dX8_takeFrom_20 rfl (lv_at hl 1 rfl) ?_
  refine gi_X8_65 cx hw (lModel_is h1) dX8_takeFrom_21 ?_
  refine pi_X8_65 cx hw (lModel_is h0) dX8_takeFrom_24 (fun mi3 H locs emi3 hw => ?_)
  have hf := nc_let_at hf emi3
  refine lv_aload_n hx hb dX8_takeFrom_27 rfl (lv_at hl 1 rfl) ?_
  refine gr_X8_28 cx hw (lModel_is h1) (lModel_person h1) ((lModel_person_L h1)).1 dX8_takeFrom_28 ?_
  refine lv_aload_n hx hb dX8_takeFrom_31 rfl (lv_at hl 0 rfl) ?_
  refine gr_X8_28 cx hw (lModel_is h0) (lModel_person h0) ((lModel_person_L h0)).1 dX8_takeFrom_32 ?_
  obtain ⟨q4, hq4, hf⟩ := nc_bi hf
  refine nc_callSv cx hw lk_X8_246 (c_X8_copyAll l (lModel_person_L h1) (lModel_person_L h0) mi3  q4 hq4) rfl hl.1 rfl (Nat.le_of_ble_eq_true rfl) ⟨rfl, rfl, Nat.le_of_ble_eq_true rfl, Nat.le_of_ble_eq_true rfl⟩ dX8_takeFrom_35 (fun H locs hw => ?_)
  refine lv_aload_n hx hb dX8_takeFrom_38 rfl (lv_at hl 0 rfl) ?_
  refine lv_aload_n hx hb dX8_takeFrom_39 rfl (lv_at hl 1 rfl) ?_
  refine gi_X8_68 cx hw (lModel_is h1) dX8_takeFrom_40 ?_
  refine pi_X8_68 cx hw (lModel_is h0) dX8_takeFrom_43 (fun mi5 H locs emi5 hw => ?_)
  have hf := nc_let_at hf emi5
  refine lv_aload_n hx hb dX8_takeFrom_46 rfl (lv_at hl 1 rfl) ?_
  refine gr_X8_31 cx hw (lModel_is h1) (lModel_thing h1) ((lModel_thing_L h1)).1 dX8_takeFrom_47 ?_
  refine lv_aload_n hx hb dX8_takeFrom_50 rfl (lv_at hl 0 rfl) ?_
  refine gr_X8_31 cx hw (lModel_is h0) (lModel_thing h0) ((lModel_thing_L h0)).1 dX8_takeFrom_51 ?_
  obtain ⟨q6, hq6, hf⟩ := nc_bi hf
  refine nc_callSv cx hw lk_X8_246 (c_X8_copyAll l (lModel_thing_L h1) (lModel_thing_L h0) mi5  q6 hq6) rfl hl.1 rfl (Nat.le_of_ble_eq_true rfl) ⟨rfl, rfl, Nat.le_of_ble_eq_true rfl, Nat.le_of_ble_eq_true rfl⟩ dX8_takeFrom_54 (fun H locs hw => ?_)
  refine lv_aload_n hx hb dX8_takeFrom_57 rfl (lv_at hl 0 rfl) ?_
  refine lv_aload_n hx hb dX8_takeFrom_58 rfl (lv_at hl 1 rfl) ?_
  refine gi_X8_148 cx hw (lModel_is h1) dX8_takeFrom_59 ?_
  refine pi_X8_148 cx hw (lModel_is h0) dX8_takeFrom_62 (fun mi7 H locs emi7 hw => ?_)
  have hf := nc_let_at hf emi7
  exact nc_vpm hret hf hw dX8_takeFrom_65
abbrev rm_X8_findFar : Room := { frames := 0, cells := 0, slots := 0, locals := 0 }
set_option maxRecDepth 100000 in
set_option maxHeartbeats 4000000 in
theorem c_X8_findFar (l : Launch) {G : nc_G} {K : nc_K} {o : Nat} (h0 : nc_LModel G K o) (mi : nc_Mem)  (res : nc_Mem) (hf : f_X8_findFar mi o = some res) : nc_M l yX8_findFar cX8_findFar 5 none rm_X8_findFar 0 0 G K K [.ref o] mi res none := by
  refine nc_meet_v (by decide) (Nat.le_of_ble_eq_true rfl) ?_
  intro p e s m args below meth c Q H locs ls cx hret hw hl
  have cx : nc_C p s m args c cX8_findFar 5 RX8 G := cx
  have hl : lv_has ls 5 [(0, .ref o)] := hl
  have hx := cx.1
  have hb := cx.2.1
  unfold f_X8_findFar at hf
  refine lv_iconst (v := 0) hx hb dX8_findFar_0 (by decide) ?_
  refine lv_istore_n (lv' := [(1, .int 0), (0, .ref o)]) hx hb dX8_findFar_1 rfl hl (by decide) rfl (fun ls hl => ?_)
  refine nc_loop_w (P := fun κ : Int32 → nc_Mem → Option (nc_Mem) => ∀ (x1 : Int32) (mi2 : nc_Mem), κ x1 mi2 = some res → ∀ (H : Heap) (locs : List Loc) (ls : Array Slot), nc_W G K mi2 H locs → lv_has ls 5 [(0, .ref o), (1, .int x1)] → W p l e rm_X8_findFar s m args below meth c H locs 0 0 Q (F0 m 2 ls [])) ?_ ?_ 200 _ _ hf _ _ _ hw (lv_sub hl [1, 0] rfl)
  · intro x1 mi2 hf; exact absurd hf (by intro q; cases q)
  · intro rc3 ihrc3 x1 mi2 hf H locs ls hw hl
    unfold B_X8_findFar_2 at hf
    refine lv_iload_n hx hb dX8_findFar_2 rfl (lv_at hl 1 rfl) ?_
    refine lv_aload_n hx hb dX8_findFar_3 rfl (lv_at hl 0 rfl) ?_
    refine gi_X8_19 cx hw (lModel_is h0) dX8_findFar_4 ?_
    refine lv_icmp_ge (tgt := 73) hx hb dX8_findFar_7 (by decide) (fun c4 => ?_) (fun c4 => ?_)
    · have hf := nc_ifp hf c4
      refine lv_iconst (v := 0) hx hb dX8_findFar_73 (by decide) ?_
      refine lv_istore_n (lv' := [(1, .int 0), (0, .ref o)]) hx hb dX8_findFar_74 rfl hl (by decide) rfl (fun ls hl => ?_)
      refine nc_loop_w (P := fun κ : Int32 → nc_Mem → Option (nc_Mem) => ∀ (x5 : Int32) (mi6 : nc_Mem), κ x5 mi6 = some res → ∀ (H : Heap) (locs : List Loc) (ls : Array Slot), nc_W G K mi6 H locs → lv_has ls 5 [(0, .ref o), (1, .int x5)] → W p l e rm_X8_findFar s m args below meth c H locs 0 0 Q (F0 m 75 ls [])) ?_ ?_ 200 _ _ hf _ _ _ hw (lv_sub hl [1, 0] rfl)
      · intro x5 mi6 hf; exact absurd hf (by intro q; cases q)
      · intro rc7 ihrc7 x5 mi6 hf H locs ls hw hl
        unfold B_X8_findFar_75 at hf
        refine lv_iload_n hx hb dX8_findFar_75 rfl (lv_at hl 1 rfl) ?_
        refine lv_aload_n hx hb dX8_findFar_76 rfl (lv_at hl 0 rfl) ?_
        refine gi_X8_19 cx hw (lModel_is h0) dX8_findFar_77 ?_
        refine lv_icmp_ge (tgt := 174) hx hb dX8_findFar_80 (by decide) (fun c8 => ?_) (fun c8 => ?_)
        · have hf := nc_ifp hf c8
          exact nc_vpm hret hf hw dX8_findFar_174
        · have hf := nc_ifn hf c8
          refine lv_iconst (v := 0) hx hb dX8_findFar_83 (by decide) ?_
          refine lv_istore_n (lv' := [(2, .int 0), (0, .ref o), (1, .int x5)]) hx hb dX8_findFar_84 rfl hl (by decide) rfl (fun ls hl => ?_)
          refine nc_loop_w (P := fun κ : Int32 → nc_Mem → Option (nc_Mem) => ∀ (x9 : Int32) (mi10 : nc_Mem), κ x9 mi10 = some res → ∀ (H : Heap) (locs : List Loc) (ls : Array Slot), nc_W G K mi10 H locs → lv_has ls 5 [(0, .ref o), (1, .int x5), (2, .int x9)] → W p l e rm_X8_findFar s m args below meth c H locs 0 0 Q (F0 m 85 ls [])) ?_ ?_ 200 _ _ hf _ _ _ hw (lv_sub hl [1, 2, 0] rfl)
          · intro x9 mi10 hf; exact absurd hf (by intro q; cases q)
          · intro rc11 ihrc11 x9 mi10 hf H locs ls hw hl
            unfold B_X8_findFar_85 at hf
            refine lv_iload_n hx hb dX8_findFar_85 rfl (lv_at hl 2 rfl) ?_
            refine lv_aload_n hx hb dX8_findFar_86 rfl (lv_at hl 0 rfl) ?_
            refine gi_X8_19 cx hw (lModel_is h0) dX8_findFar_87 ?_
            refine lv_icmp_ge (tgt := 168) hx hb dX8_findFar_90 (by decide) (fun c12 => ?_) (fun c12 => ?_)
            · have hf := nc_ifp hf c12
              obtain ⟨x13, ex13⟩ : ∃ y : Int32, y = x5 + 1 := ⟨_, rfl⟩
              have hf := nc_let_at hf ex13
              refine lv_iinc (v := x13) (lv' := [(1, .int x13), (0, .ref o), (2, .int x9)]) hx hb dX8_findFar_168 hl (k := 1) rfl (by rw [ex13]; rfl) (by decide) rfl (fun ls hl => ?_)
              refine lv_goto (tgt := 75) hx hb dX8_findFar_171 (by decide) ?_
              exact ihrc7 _ _ hf _ _ _ hw (lv_sub hl [1, 0] rfl)
            · have hf := nc_ifn hf c12
              refine lv_iconst (v := 0) hx hb dX8_findFar_93 (by decide) ?_
              refine lv_istore_n (lv' := [(3, .int 0), (0, .ref o), (1, .int x5), (2, .int x9)]) hx hb dX8_findFar_94 rfl hl (by decide) rfl (fun ls hl => ?_)
              refine nc_loop_w (P := fun κ : Int32 → nc_Mem → Option (nc_Mem) => ∀ (x14 : Int32) (mi15 : nc_Mem), κ x14 mi15 = some res → ∀ (H : Heap) (locs : List Loc) (ls : Array Slot), nc_W G K mi15 H locs → lv_has ls 5 [(0, .ref o), (1, .int x5), (2, .int x9), (3, .int x14)] → W p l e rm_X8_findFar s m args below meth c H locs 0 0 Q (F0 m 95 ls [])) ?_ ?_ 200 _ _ hf _ _ _ hw (lv_sub hl [1, 2, 3, 0] rfl)
              · intro x14 mi15 hf; exact absurd hf (by intro q; cases q)
              · intro rc16 ihrc16 x14 mi15 hf H locs ls hw hl
                unfold B_X8_findFar_95 at hf
                refine lv_iload_n hx hb dX8_findFar_95 rfl (lv_at hl 3 rfl) ?_
                refine lv_aload_n hx hb dX8_findFar_96 rfl (lv_at hl 0 rfl) ?_
                refine gi_X8_19 cx hw (lModel_is h0) dX8_findFar_97 ?_
                refine lv_icmp_ge (tgt := 162) hx hb dX8_findFar_100 (by decide) (fun c17 => ?_) (fun c17 => ?_)
                · have hf := nc_ifp hf c17
                  obtain ⟨x18, ex18⟩ : ∃ y : Int32, y = x9 + 1 := ⟨_, rfl⟩
                  have hf := nc_let_at hf ex18
                  refine lv_iinc (v := x18) (lv' := [(2, .int x18), (0, .ref o), (1, .int x5), (3, .int x14)]) hx hb dX8_findFar_162 hl (k := 2) rfl (by rw [ex18]; rfl) (by decide) rfl (fun ls hl => ?_)
                  refine lv_goto (tgt := 85) hx hb dX8_findFar_165 (by decide) ?_
                  exact ihrc11 _ _ hf _ _ _ hw (lv_sub hl [1, 2, 0] rfl)
                · have hf := nc_ifn hf c17
                  refine lv_aload_n hx hb dX8_findFar_103 rfl (lv_at hl 0 rfl) ?_
                  refine gr_X8_37 cx hw (lModel_is h0) (lModel_far h0) ((lModel_far_L h0)).1 dX8_findFar_104 ?_
                  refine lv_iload_n hx hb dX8_findFar_107 rfl (lv_at hl 2 rfl) ?_
                  obtain ⟨j19, ej19, ij19, lj19, hf⟩ := nc_ix hf
                  refine nc_ald cx hw (by decide) ((lModel_far_L h0)).1 ij19 ej19 (((lModel_far_L h0)).2 j19 lj19).1 (((lModel_far_L h0)).2 j19 lj19).2 dX8_findFar_108 ?_
                  refine lv_iload_n hx hb dX8_findFar_109 rfl (lv_at hl 1 rfl) ?_
                  obtain ⟨j20, ej20, ij20, lj20, hf⟩ := nc_ix hf
                  refine nc_ild cx hw (((lModel_far_L h0)).2 j19 lj19).2 ij20 ej20 dX8_findFar_110 ?_
                  refine lv_aload_n hx hb dX8_findFar_111 rfl (lv_at hl 0 rfl) ?_
                  refine gr_X8_37 cx hw (lModel_is h0) (lModel_far h0) ((lModel_far_L h0)).1 dX8_findFar_112 ?_
                  refine lv_iload_n hx hb dX8_findFar_115 rfl (lv_at hl 1 rfl) ?_
                  refine nc_ald cx hw (by decide) ((lModel_far_L h0)).1 ij20 ej20 (((lModel_far_L h0)).2 j20 lj20).1 (((lModel_far_L h0)).2 j20 lj20).2 dX8_findFar_116 ?_
                  refine lv_iload_n hx hb dX8_findFar_117 rfl (lv_at hl 3 rfl) ?_
                  obtain ⟨j21, ej21, ij21, lj21, hf⟩ := nc_ix hf
                  refine nc_ild cx hw (((lModel_far_L h0)).2 j20 lj20).2 ij21 ej21 dX8_findFar_118 ?_
                  refine lv_iadd hx hb dX8_findFar_119 ?_
                  refine lv_topi (fun x22 ex22 => ?_)
                  have hf := nc_let_at hf ex22
                  refine lv_istore (lv' := [(4, .int x22), (0, .ref o), (1, .int x5), (2, .int x9), (3, .int x14)]) hx hb dX8_findFar_120 hl (by decide) rfl (fun ls hl => ?_)
                  refine lv_aload_n hx hb dX8_findFar_122 rfl (lv_at hl 1 rfl) ?_
                  refine gr_X8_37 cx hw (lModel_is h0) (lModel_far h0) ((lModel_far_L h0)).1 dX8_findFar_123 ?_
                  refine lv_iload_n hx hb dX8_findFar_126 rfl (lv_at hl 3 rfl) ?_
                  refine nc_ald cx hw (by decide) ((lModel_far_L h0)).1 ij19 ej19 (((lModel_far_L h0)).2 j19 lj19).1 (((lModel_far_L h0)).2 j19 lj19).2 dX8_findFar_127 ?_
                  refine lv_iload_n hx hb dX8_findFar_128 rfl (lv_at hl 4 rfl) ?_
                  refine lv_iload hx hb dX8_findFar_129 (lv_at hl 0 rfl) ?_
                  refine lv_aload_n hx hb dX8_findFar_131 rfl (lv_at hl 1 rfl) ?_
                  refine gr_X8_37 cx hw (lModel_is h0) (lModel_far h0) ((lModel_far_L h0)).1 dX8_findFar_132 ?_
                  refine lv_iload_n hx hb dX8_findFar_135 rfl (lv_at hl 3 rfl) ?_
                  refine nc_ald cx hw (by decide) ((lModel_far_L h0)).1 ij19 ej19 (((lModel_far_L h0)).2 j19 lj19).1 (((lModel_far_L h0)).2 j19 lj19).2 dX8_findFar_136 ?_
                  refine lv_iload_n hx hb dX8_findFar_137 rfl (lv_at hl 4 rfl) ?_
                  refine nc_ild cx hw (((lModel_far_L h0)).2 j19 lj19).2 ij21 ej21 dX8_findFar_138 ?_
                  obtain ⟨k23, ek23, hf⟩ := nc_jn_of hf
                  have hk23 : ∀ (v24 : Int32), k23 v24 = some res → ∀ (H : Heap) (locs : List Loc) (ls : Array Slot), nc_W G K mi15 H locs → lv_has ls 5 [(0, .ref o), (1, .int x5), (2, .int x9), (3, .int x14)] → W p l e rm_X8_findFar s m args below meth c H locs 0 0 Q (F0 m 155 ls [.int v24, .int x14, .ref (o + 27 + 1 + j19)]) := by
                    intro v24 hf H locs ls hw hl
                    have hf := ((congrFun ek23 v24)).symm.trans hf
                    refine nc_ist cx hw (((lModel_far_L h0)).2 j19 lj19).2 ij21 ej21 dX8_findFar_155 (fun mi25 H locs emi25 hw => ?_)
                    have hf := nc_let_at hf emi25
                    obtain ⟨x26, ex26⟩ : ∃ y : Int32, y = x14 + 1 := ⟨_, rfl⟩
                    have hf := nc_let_at hf ex26
                    refine lv_iinc (v := x26) (lv' := [(3, .int x26), (0, .ref o), (1, .int x5), (2, .int x9)]) hx hb dX8_findFar_156 hl (k := 3) rfl (by rw [ex26]; rfl) (by decide) rfl (fun ls hl => ?_)
                    refine lv_goto (tgt := 95) hx hb dX8_findFar_159 (by decide) ?_
                    exact ihrc16 _ _ hf _ _ _ hw (lv_sub hl [1, 2, 3, 0] rfl)
                  refine lv_icmp_ge (tgt := 147) hx hb dX8_findFar_139 (by decide) (fun c27 => ?_) (fun c27 => ?_)
                  · have hf := nc_ifp hf c27
                    refine lv_aload_n hx hb dX8_findFar_147 rfl (lv_at hl 1 rfl) ?_
                    refine gr_X8_37 cx hw (lModel_is h0) (lModel_far h0) ((lModel_far_L h0)).1 dX8_findFar_148 ?_
                    refine lv_iload_n hx hb dX8_findFar_151 rfl (lv_at hl 3 rfl) ?_
                    refine nc_ald cx hw (by decide) ((lModel_far_L h0)).1 ij19 ej19 (((lModel_far_L h0)).2 j19 lj19).1 (((lModel_far_L h0)).2 j19 lj19).2 dX8_findFar_152 ?_
                    refine lv_iload_n hx hb dX8_findFar_153 rfl (lv_at hl 4 rfl) ?_
                    refine nc_ild cx hw (((lModel_far_L h0)).2 j19 lj19).2 ij21 ej21 dX8_findFar_154 ?_
                    exact hk23 _ hf _ _ _ hw (lv_sub hl [1, 2, 3, 4] rfl)
                  · have hf := nc_ifn hf c27
                    refine lv_iload hx hb dX8_findFar_142 (lv_at hl 0 rfl) ?_
                    refine lv_goto (tgt := 155) hx hb dX8_findFar_144 (by decide) ?_
                    exact hk23 _ hf _ _ _ hw (lv_sub hl [1, 2, 3, 4] rfl)
    · have hf := nc_ifn hf c4
      refine lv_iconst (v := 0) hx hb dX8_findFar_10 (by decide) ?_
      refine lv_istore_n (lv' := [(2, .int 0), (0, .ref o), (1, .int x1)]) hx hb dX8_findFar_11 rfl hl (by decide) rfl (fun ls hl => ?_)
      refine nc_loop_w (P := fun κ : Int32 → nc_Mem → Option (nc_Mem) => ∀ (x28 : Int32) (mi29 : nc_Mem), κ x28 mi29 = some res → ∀ (H : Heap) (locs : List Loc) (ls : Array Slot), nc_W G K mi29 H locs → lv_has ls 5 [(0, .ref o), (1, .int x1), (2, .int x28)] → W p l e rm_X8_findFar s m args below meth c H locs 0 0 Q (F0 m 12 ls [])) ?_ ?_ 200 _ _ hf _ _ _ hw (lv_sub hl [1, 2, 0] rfl)
      · intro x28 mi29 hf; exact absurd hf (by intro q; cases q)
      · intro rc30 ihrc30 x28 mi29 hf H locs ls hw hl
        unfold B_X8_findFar_12 at hf
        refine lv_iload_n hx hb dX8_findFar_12 rfl (lv_at hl 2 rfl) ?_
        refine lv_aload_n hx hb dX8_findFar_13 rfl (lv_at hl 0 rfl) ?_
        refine gi_X8_19 cx hw (lModel_is h0) dX8_findFar_14 ?_
        refine lv_icmp_ge (tgt := 67) hx hb dX8_findFar_17 (by decide) (fun c31 => ?_) (fun c31 => ?_)
        · have hf := nc_ifp hf c31
          obtain ⟨x32, ex32⟩ : ∃ y : Int32, y = x1 + 1 := ⟨_, rfl⟩
          have hf := nc_let_at hf ex32
          refine lv_iinc (v := x32) (lv' := [(1, .int x32), (0, .ref o), (2, .int x28)]) hx hb dX8_findFar_67 hl (k := 1) rfl (by rw [ex32]; rfl) (by decide) rfl (fun ls hl => ?_)
          refine lv_goto (tgt := 2) hx hb dX8_findFar_70 (by decide) ?_
          exact ihrc3 _ _ hf _ _ _ hw (lv_sub hl [1, 0] rfl)
        · have hf := nc_ifn hf c31
          refine lv_aload_n hx hb dX8_findFar_20 rfl (lv_at hl 0 rfl) ?_
          refine gr_X8_37 cx hw (lModel_is h0) (lModel_far h0) ((lModel_far_L h0)).1 dX8_findFar_21 ?_
          refine lv_iload_n hx hb dX8_findFar_24 rfl (lv_at hl 1 rfl) ?_
          obtain ⟨j33, ej33, ij33, lj33, hf⟩ := nc_ix hf
          refine nc_ald cx hw (by decide) ((lModel_far_L h0)).1 ij33 ej33 (((lModel_far_L h0)).2 j33 lj33).1 (((lModel_far_L h0)).2 j33 lj33).2 dX8_findFar_25 ?_
          refine lv_iload_n hx hb dX8_findFar_26 rfl (lv_at hl 2 rfl) ?_
          refine lv_iload_n hx hb dX8_findFar_27 rfl (lv_at hl 1 rfl) ?_
          refine lv_iload_n hx hb dX8_findFar_28 rfl (lv_at hl 2 rfl) ?_
          obtain ⟨k34, ek34, hf⟩ := nc_jn_of hf
          have hk34 : ∀ (v35 : Int32), k34 v35 = some res → ∀ (H : Heap) (locs : List Loc) (ls : Array Slot), nc_W G K mi29 H locs → lv_has ls 5 [(0, .ref o), (1, .int x1), (2, .int x28)] → W p l e rm_X8_findFar s m args below meth c H locs 0 0 Q (F0 m 60 ls [.int v35, .int x28, .ref (o + 27 + 1 + j33)]) := by
            intro v35 hf H locs ls hw hl
            have hf := ((congrFun ek34 v35)).symm.trans hf
            obtain ⟨j36, ej36, ij36, lj36, hf⟩ := nc_ix hf
            refine nc_ist cx hw (((lModel_far_L h0)).2 j33 lj33).2 ij36 ej36 dX8_findFar_60 (fun mi37 H locs emi37 hw => ?_)
            have hf := nc_let_at hf emi37
            obtain ⟨x38, ex38⟩ : ∃ y : Int32, y = x28 + 1 := ⟨_, rfl⟩
            have hf := nc_let_at hf ex38
            refine lv_iinc (v := x38) (lv' := [(2, .int x38), (0, .ref o), (1, .int x1)]) hx hb dX8_findFar_61 hl (k := 2) rfl (by rw [ex38]; rfl) (by decide) rfl (fun ls hl => ?_)
            refine lv_goto (tgt := 12) hx hb dX8_findFar_64 (by decide) ?_
            exact ihrc30 _ _ hf _ _ _ hw (lv_sub hl [1, 2, 0] rfl)
          refine lv_icmp_ne (tgt := 36) hx hb dX8_findFar_29 (by decide) (fun c39 => ?_) (fun c39 => ?_)
          · have hf := nc_ifn hf c39
            refine lv_aload_n hx hb dX8_findFar_36 rfl (lv_at hl 0 rfl) ?_
            refine gr_X8_25 cx hw (lModel_is h0) (lModel_way h0) ((lModel_way_L h0)).1 dX8_findFar_37 ?_
            refine lv_iload_n hx hb dX8_findFar_40 rfl (lv_at hl 1 rfl) ?_
            refine nc_ald cx hw (by decide) ((lModel_way_L h0)).1 ij33 ej33 (((lModel_way_L h0)).2 j33 lj33).1 (((lModel_way_L h0)).2 j33 lj33).2 dX8_findFar_41 ?_
            refine lv_iload_n hx hb dX8_findFar_42 rfl (lv_at hl 2 rfl) ?_
            obtain ⟨j40, ej40, ij40, lj40, hf⟩ := nc_ix hf
            refine nc_ild cx hw (((lModel_way_L h0)).2 j33 lj33).2 ij40 ej40 dX8_findFar_43 ?_
            refine lv_if_le (tgt := 58) hx hb dX8_findFar_44 (by decide) (fun c41 => ?_) (fun c41 => ?_)
            · have hf := nc_ifp hf c41
              refine nc_ldc (v := 100000) cx kc_X8_138 dX8_findFar_58 ?_
              exact hk34 _ hf _ _ _ hw (lv_sub hl [0, 1, 2] rfl)
            · have hf := nc_ifn hf c41
              refine lv_aload_n hx hb dX8_findFar_47 rfl (lv_at hl 0 rfl) ?_
              refine gr_X8_25 cx hw (lModel_is h0) (lModel_way h0) ((lModel_way_L h0)).1 dX8_findFar_48 ?_
              refine lv_iload_n hx hb dX8_findFar_51 rfl (lv_at hl 1 rfl) ?_
              refine nc_ald cx hw (by decide) ((lModel_way_L h0)).1 ij33 ej33 (((lModel_way_L h0)).2 j33 lj33).1 (((lModel_way_L h0)).2 j33 lj33).2 dX8_findFar_52 ?_
              refine lv_iload_n hx hb dX8_findFar_53 rfl (lv_at hl 2 rfl) ?_
              refine nc_ild cx hw (((lModel_way_L h0)).2 j33 lj33).2 ij40 ej40 dX8_findFar_54 ?_
              refine lv_goto (tgt := 60) hx hb dX8_findFar_55 (by decide) ?_
              exact hk34 _ hf _ _ _ hw (lv_sub hl [0, 1, 2] rfl)
          · have hf := nc_ifp hf c39
            refine lv_iconst (v := 0) hx hb dX8_findFar_32 (by decide) ?_
            refine lv_goto (tgt := 60) hx hb dX8_findFar_33 (by decide) ?_
            exact hk34 _ hf _ _ _ hw (lv_sub hl [0, 1, 2] rfl)
abbrev rm_X8_minutes : Room := { frames := 2, cells := 0, slots := 0, locals := 43 }
set_option maxRecDepth 100000 in
set_option maxHeartbeats 4000000 in
theorem c_X8_minutes (l : Launch) {G : nc_G} {K : nc_K} {o : Nat} (h0 : nc_LModel G K o) (mi : nc_Mem) (a1 a2 : Int32) (res : nc_Mem × Int32) (hf : f_X8_minutes mi o a1 a2 = some res) : nc_M l yX8_minutes cX8_minutes 3 (some .int) rm_X8_minutes 0 0 G K K [.ref o, .int a1, .int a2] mi res.1 (some (.int res.2)) := by
  refine nc_meet_i (by decide) (Nat.le_of_ble_eq_true rfl) ?_
  intro p e s m args below meth c Q H locs ls cx hret hw hl
  have cx : nc_C p s m args c cX8_minutes 3 RX8 G := cx
  have hl : lv_has ls 3 [(0, .ref o), (1, .int a1), (2, .int a2)] := hl
  have hx := cx.1
  have hb := cx.2.1
  unfold f_X8_minutes at hf
  refine lv_aload_n hx hb dX8_minutes_0 rfl (lv_at hl 0 rfl) ?_
  refine lv_iload_n hx hb dX8_minutes_1 rfl (lv_at hl 1 rfl) ?_
  obtain ⟨q1, hq1, hf⟩ := nc_bi hf
  refine nc_callVi cx hw lk_X8_105 (c_X8_isPlace l h0 mi a1 q1 hq1) (ci := 8) rfl (lModel_is h0) rfl hl.1 rfl (Nat.le_of_ble_eq_true rfl) ⟨rfl, rfl, Nat.le_of_ble_eq_true rfl, Nat.le_of_ble_eq_true rfl⟩ dX8_minutes_2 (fun H locs hw => ?_)
  obtain ⟨k2, ek2, hf⟩ := nc_jn_of hf
  have hk2 : k2 = some res → ∀ (H : Heap) (locs : List Loc) (ls : Array Slot), nc_W G K mi H locs → lv_has ls 3 [(0, .ref o)] → W p l e rm_X8_minutes s m args below meth c H locs 0 0 Q (F0 m 16 ls []) := by
    intro hf H locs ls hw hl
    have hf := (ek2).symm.trans hf
    refine lv_aload_n hx hb dX8_minutes_16 rfl (lv_at hl 0 rfl) ?_
    refine lv_iconst (v := (-1)) hx hb dX8_minutes_17 (by decide) ?_
    obtain ⟨q3, hq3, hf⟩ := nc_bi hf
    refine nc_callVi cx hw lk_X8_71 (c_X8_refuse l h0 mi (-1) q3 hq3) (ci := 8) rfl (lModel_is h0) rfl hl.1 rfl (Nat.le_of_ble_eq_true rfl) ⟨rfl, rfl, Nat.le_of_ble_eq_true rfl, Nat.le_of_ble_eq_true rfl⟩ dX8_minutes_18 (fun H locs hw => ?_)
    exact nc_rpm hret hf rfl hw dX8_minutes_21
  refine lv_if_eq (tgt := 16) hx hb dX8_minutes_5 (by decide) (fun c4 => ?_) (fun c4 => ?_)
  · have hf := nc_ifp hf c4
    exact hk2 hf _ _ _ hw (lv_sub hl [0] rfl)
  · have hf := nc_ifn hf c4
    refine lv_aload_n hx hb dX8_minutes_8 rfl (lv_at hl 0 rfl) ?_
    refine lv_iload_n hx hb dX8_minutes_9 rfl (lv_at hl 2 rfl) ?_
    obtain ⟨q5, hq5, hf⟩ := nc_bi hf
    refine nc_callVi cx hw lk_X8_105 (c_X8_isPlace l h0 mi a2 q5 hq5) (ci := 8) rfl (lModel_is h0) rfl hl.1 rfl (Nat.le_of_ble_eq_true rfl) ⟨rfl, rfl, Nat.le_of_ble_eq_true rfl, Nat.le_of_ble_eq_true rfl⟩ dX8_minutes_10 (fun H locs hw => ?_)
    refine lv_if_ne (tgt := 22) hx hb dX8_minutes_13 (by decide) (fun c6 => ?_) (fun c6 => ?_)
    · have hf := nc_ifn hf c6
      refine lv_aload_n hx hb dX8_minutes_22 rfl (lv_at hl 0 rfl) ?_
      obtain ⟨q7, hq7, hf⟩ := nc_bi hf
      refine nc_callVv cx hw lk_X8_139 (c_X8_findFar l h0 mi  q7 hq7) (ci := 8) rfl (lModel_is h0) rfl hl.1 rfl (Nat.le_of_ble_eq_true rfl) ⟨rfl, rfl, Nat.le_of_ble_eq_true rfl, Nat.le_of_ble_eq_true rfl⟩ dX8_minutes_23 (fun H locs hw => ?_)
      refine lv_aload_n hx hb dX8_minutes_26 rfl (lv_at hl 0 rfl) ?_
      refine gr_X8_37 cx hw (lModel_is h0) (lModel_far h0) ((lModel_far_L h0)).1 dX8_minutes_27 ?_
      refine lv_iload_n hx hb dX8_minutes_30 rfl (lv_at hl 1 rfl) ?_
      obtain ⟨j8, ej8, ij8, lj8, hf⟩ := nc_ix hf
      refine nc_ald cx hw (by decide) ((lModel_far_L h0)).1 ij8 ej8 (((lModel_far_L h0)).2 j8 lj8).1 (((lModel_far_L h0)).2 j8 lj8).2 dX8_minutes_31 ?_
      refine lv_iload_n hx hb dX8_minutes_32 rfl (lv_at hl 2 rfl) ?_
      obtain ⟨j9, ej9, ij9, lj9, hf⟩ := nc_ix hf
      refine nc_ild cx hw (((lModel_far_L h0)).2 j8 lj8).2 ij9 ej9 dX8_minutes_33 ?_
      refine nc_ldc (v := 100000) cx kc_X8_138 dX8_minutes_34 ?_
      refine lv_icmp_ge (tgt := 50) hx hb dX8_minutes_36 (by decide) (fun c10 => ?_) (fun c10 => ?_)
      · have hf := nc_ifp hf c10
        refine lv_bipush (v := (-9)) hx hb dX8_minutes_50 (by decide) ?_
        exact nc_rpm hret hf rfl hw dX8_minutes_52
      · have hf := nc_ifn hf c10
        refine lv_aload_n hx hb dX8_minutes_39 rfl (lv_at hl 0 rfl) ?_
        refine gr_X8_37 cx hw (lModel_is h0) (lModel_far h0) ((lModel_far_L h0)).1 dX8_minutes_40 ?_
        refine lv_iload_n hx hb dX8_minutes_43 rfl (lv_at hl 1 rfl) ?_
        refine nc_ald cx hw (by decide) ((lModel_far_L h0)).1 ij8 ej8 (((lModel_far_L h0)).2 j8 lj8).1 (((lModel_far_L h0)).2 j8 lj8).2 dX8_minutes_44 ?_
        refine lv_iload_n hx hb dX8_minutes_45 rfl (lv_at hl 2 rfl) ?_
        refine nc_ild cx hw (((lModel_far_L h0)).2 j8 lj8).2 ij9 ej9 dX8_minutes_46 ?_
        refine lv_goto (tgt := 52) hx hb dX8_minutes_47 (by decide) ?_
        exact nc_rpm hret hf rfl hw dX8_minutes_52
    · have hf := nc_ifp hf c6
      exact hk2 hf _ _ _ hw (lv_sub hl [0] rfl)
abbrev rm_X8_carriedBy : Room := { frames := 0, cells := 0, slots := 0, locals := 0 }
set_option maxRecDepth 100000 in
set_option maxHeartbeats 4000000 in
theorem c_X8_carriedBy (l : Launch) {G : nc_G} {K : nc_K} {o : Nat} (h0 : nc_LModel G K o) (mi : nc_Mem) (a1 : Int32) (res : Int32) (hf : f_X8_carriedBy mi o a1 = some res) : nc_M l yX8_carriedBy cX8_carriedBy 4 (some .int) rm_X8_carriedBy 0 0 G K K [.ref o, .int a1] mi mi (some (.int res)) := by
  refine nc_meet_i (by decide) (Nat.le_of_ble_eq_true rfl) ?_
  intro p e s m args below meth c Q H locs ls cx hret hw hl
  have cx : nc_C p s m args c cX8_carriedBy 4 RX8 G := cx
  have hl : lv_has ls 4 [(0, .ref o), (1, .int a1)] := hl
  have hx := cx.1
  have hb := cx.2.1
  unfold f_X8_carriedBy at hf
  refine lv_iconst (v := 0) hx hb dX8_carriedBy_0 (by decide) ?_
  refine lv_istore_n (lv' := [(2, .int 0), (0, .ref o), (1, .int a1)]) hx hb dX8_carriedBy_1 rfl hl (by decide) rfl (fun ls hl => ?_)
  refine lv_iconst (v := 0) hx hb dX8_carriedBy_2 (by decide) ?_
  refine lv_istore_n (lv' := [(3, .int 0), (2, .int 0), (0, .ref o), (1, .int a1)]) hx hb dX8_carriedBy_3 rfl hl (by decide) rfl (fun ls hl => ?_)
  refine nc_loop_w (P := fun κ : Int32 → Int32 → Option (Int32) => ∀ (x1 : Int32) (x2 : Int32), κ x1 x2 = some res → ∀ (H : Heap) (locs : List Loc) (ls : Array Slot), nc_W G K mi H locs → lv_has ls 4 [(0, .ref o), (1, .int a1), (2, .int x1), (3, .int x2)] → W p l e rm_X8_carriedBy s m args below meth c H locs 0 0 Q (F0 m 4 ls [])) ?_ ?_ 200 _ _ hf _ _ _ hw (lv_sub hl [2, 3, 1, 0] rfl)
  · intro x1 x2 hf; exact absurd hf (by intro q; cases q)
  · intro rc3 ihrc3 x1 x2 hf H locs ls hw hl
    unfold B_X8_carriedBy_4 at hf
    refine lv_iload_n hx hb dX8_carriedBy_4 rfl (lv_at hl 3 rfl) ?_
    refine lv_aload_n hx hb dX8_carriedBy_5 rfl (lv_at hl 0 rfl) ?_
    refine gi_X8_68 cx hw (lModel_is h0) dX8_carriedBy_6 ?_
    refine lv_icmp_ge (tgt := 44) hx hb dX8_carriedBy_9 (by decide) (fun c4 => ?_) (fun c4 => ?_)
    · have hf := nc_ifp hf c4
      refine lv_iload_n hx hb dX8_carriedBy_44 rfl (lv_at hl 2 rfl) ?_
      exact nc_rpp hret hf rfl hw dX8_carriedBy_45
    · have hf := nc_ifn hf c4
      refine lv_iload_n hx hb dX8_carriedBy_12 rfl (lv_at hl 2 rfl) ?_
      refine lv_aload_n hx hb dX8_carriedBy_13 rfl (lv_at hl 0 rfl) ?_
      refine gr_X8_31 cx hw (lModel_is h0) (lModel_thing h0) ((lModel_thing_L h0)).1 dX8_carriedBy_14 ?_
      refine lv_iload_n hx hb dX8_carriedBy_17 rfl (lv_at hl 3 rfl) ?_
      obtain ⟨j5, ej5, ij5, lj5, hf⟩ := nc_ix hf
      refine nc_ald cx hw (by decide) ((lModel_thing_L h0)).1 ij5 ej5 (((lModel_thing_L h0)).2 j5 lj5).1 (((lModel_thing_L h0)).2 j5 lj5).2 dX8_carriedBy_18 ?_
      refine lv_bipush (v := 7) hx hb dX8_carriedBy_19 (by decide) ?_
      refine nc_ild cx hw (((lModel_thing_L h0)).2 j5 lj5).2 (nc_lit (j := 7) rfl (by decide) (by decide)) rfl dX8_carriedBy_21 ?_
      refine lv_bipush (v := 10) hx hb dX8_carriedBy_22 (by decide) ?_
      refine lv_iload_n hx hb dX8_carriedBy_24 rfl (lv_at hl 1 rfl) ?_
      refine lv_iadd hx hb dX8_carriedBy_25 ?_
      refine lv_icmp_ne (tgt := 35) hx hb dX8_carriedBy_26 (by decide) (fun c6 => ?_) (fun c6 => ?_)
      · have hf := nc_ifn hf c6
        refine lv_iconst (v := 0) hx hb dX8_carriedBy_35 (by decide) ?_
        refine lv_ior hx hb dX8_carriedBy_36 ?_
        refine lv_topi (fun x7 ex7 => ?_)
        have hf := nc_let_at hf ex7
        refine lv_istore_n (lv' := [(2, .int x7), (0, .ref o), (1, .int a1), (3, .int x2)]) hx hb dX8_carriedBy_37 rfl hl (by decide) rfl (fun ls hl => ?_)
        obtain ⟨x8, ex8⟩ : ∃ y : Int32, y = x2 + 1 := ⟨_, rfl⟩
        have hf := nc_let_at hf ex8
        refine lv_iinc (v := x8) (lv' := [(3, .int x8), (2, .int x7), (0, .ref o), (1, .int a1)]) hx hb dX8_carriedBy_38 hl (k := 3) rfl (by rw [ex8]; rfl) (by decide) rfl (fun ls hl => ?_)
        refine lv_goto (tgt := 4) hx hb dX8_carriedBy_41 (by decide) ?_
        exact ihrc3 _ _ hf _ _ _ hw (lv_sub hl [2, 3, 1, 0] rfl)
      · have hf := nc_ifp hf c6
        refine lv_iconst (v := 1) hx hb dX8_carriedBy_29 (by decide) ?_
        refine lv_iload_n hx hb dX8_carriedBy_30 rfl (lv_at hl 3 rfl) ?_
        refine lv_ishl hx hb dX8_carriedBy_31 ?_
        refine lv_goto (tgt := 36) hx hb dX8_carriedBy_32 (by decide) ?_
        refine lv_ior hx hb dX8_carriedBy_36 ?_
        refine lv_topi (fun x9 ex9 => ?_)
        have hf := nc_let_at hf ex9
        refine lv_istore_n (lv' := [(2, .int x9), (0, .ref o), (1, .int a1), (3, .int x2)]) hx hb dX8_carriedBy_37 rfl hl (by decide) rfl (fun ls hl => ?_)
        obtain ⟨x10, ex10⟩ : ∃ y : Int32, y = x2 + 1 := ⟨_, rfl⟩
        have hf := nc_let_at hf ex10
        refine lv_iinc (v := x10) (lv' := [(3, .int x10), (2, .int x9), (0, .ref o), (1, .int a1)]) hx hb dX8_carriedBy_38 hl (k := 3) rfl (by rw [ex10]; rfl) (by decide) rfl (fun ls hl => ?_)
        refine lv_goto (tgt := 4) hx hb dX8_carriedBy_41 (by decide) ?_
        exact ihrc3 _ _ hf _ _ _ hw (lv_sub hl [2, 3, 1, 0] rfl)
abbrev rm_X8_person : Room := { frames := 2, cells := 0, slots := 0, locals := 43 }
set_option maxRecDepth 100000 in
set_option maxHeartbeats 4000000 in
theorem c_X8_person (l : Launch) {G : nc_G} {K : nc_K} {o : Nat} (h0 : nc_LModel G K o) (mi : nc_Mem) (a1 a2 : Int32) (res : nc_Mem × Int32) (hf : f_X8_person mi o a1 a2 = some res) : nc_M l yX8_person cX8_person 3 (some .int) rm_X8_person 0 0 G K K [.ref o, .int a1, .int a2] mi res.1 (some (.int res.2)) := by
  refine nc_meet_i (by decide) (Nat.le_of_ble_eq_true rfl) ?_
  intro p e s m args below meth c Q H locs ls cx hret hw hl
  have cx : nc_C p s m args c cX8_person 3 RX8 G := cx
  have hl : lv_has ls 3 [(0, .ref o), (1, .int a1), (2, .int a2)] := hl
  have hx := cx.1
  have hb := cx.2.1
  unfold f_X8_person at hf
  refine lv_aload_n hx hb dX8_person_0 rfl (lv_at hl 0 rfl) ?_
  refine lv_iload_n hx hb dX8_person_1 rfl (lv_at hl 1 rfl) ?_
  obtain ⟨q1, hq1, hf⟩ := nc_bi hf
  refine nc_callVi cx hw lk_X8_108 (c_X8_isPerson l h0 mi a1 q1 hq1) (ci := 8) rfl (lModel_is h0) rfl hl.1 rfl (Nat.le_of_ble_eq_true rfl) ⟨rfl, rfl, Nat.le_of_ble_eq_true rfl, Nat.le_of_ble_eq_true rfl⟩ dX8_person_2 (fun H locs hw => ?_)
  refine lv_if_ne (tgt := 14) hx hb dX8_person_5 (by decide) (fun c2 => ?_) (fun c2 => ?_)
  · have hf := nc_ifn hf c2
    refine lv_iload_n hx hb dX8_person_14 rfl (lv_at hl 2 rfl) ?_
    refine lv_iconst (v := 0) hx hb dX8_person_15 (by decide) ?_
    refine lv_bipush (v := 7) hx hb dX8_person_16 (by decide) ?_
    refine nc_callSi cx hw lk_X8_61 (c_X8_in l  mi a2 0 7 _ rfl) rfl hl.1 rfl (Nat.le_of_ble_eq_true rfl) ⟨rfl, rfl, Nat.le_of_ble_eq_true rfl, Nat.le_of_ble_eq_true rfl⟩ dX8_person_18 (fun H locs hw => ?_)
    refine lv_if_ne (tgt := 31) hx hb dX8_person_21 (by decide) (fun c3 => ?_) (fun c3 => ?_)
    · have hf := nc_ifn hf c3
      refine lv_iload_n hx hb dX8_person_31 rfl (lv_at hl 2 rfl) ?_
      refine lv_bipush (v := 7) hx hb dX8_person_32 (by decide) ?_
      refine lv_icmp_ge (tgt := 48) hx hb dX8_person_34 (by decide) (fun c4 => ?_) (fun c4 => ?_)
      · have hf := nc_ifp hf c4
        refine lv_aload_n hx hb dX8_person_48 rfl (lv_at hl 0 rfl) ?_
        refine lv_iload_n hx hb dX8_person_49 rfl (lv_at hl 1 rfl) ?_
        obtain ⟨q5, hq5, hf⟩ := nc_bi hf
        refine nc_callVi cx hw lk_X8_142 (c_X8_carriedBy l h0 mi a1 q5 hq5) (ci := 8) rfl (lModel_is h0) rfl hl.1 rfl (Nat.le_of_ble_eq_true rfl) ⟨rfl, rfl, Nat.le_of_ble_eq_true rfl, Nat.le_of_ble_eq_true rfl⟩ dX8_person_50 (fun H locs hw => ?_)
        exact nc_rpm hret hf rfl hw dX8_person_53
      · have hf := nc_ifn hf c4
        refine lv_aload_n hx hb dX8_person_37 rfl (lv_at hl 0 rfl) ?_
        refine gr_X8_28 cx hw (lModel_is h0) (lModel_person h0) ((lModel_person_L h0)).1 dX8_person_38 ?_
        refine lv_iload_n hx hb dX8_person_41 rfl (lv_at hl 1 rfl) ?_
        obtain ⟨j6, ej6, ij6, lj6, hf⟩ := nc_ix hf
        refine nc_ald cx hw (by decide) ((lModel_person_L h0)).1 ij6 ej6 (((lModel_person_L h0)).2 j6 lj6).1 (((lModel_person_L h0)).2 j6 lj6).2 dX8_person_42 ?_
        refine lv_iload_n hx hb dX8_person_43 rfl (lv_at hl 2 rfl) ?_
        obtain ⟨j7, ej7, ij7, lj7, hf⟩ := nc_ix hf
        refine nc_ild cx hw (((lModel_person_L h0)).2 j6 lj6).2 ij7 ej7 dX8_person_44 ?_
        refine lv_goto (tgt := 53) hx hb dX8_person_45 (by decide) ?_
        exact nc_rpm hret hf rfl hw dX8_person_53
    · have hf := nc_ifp hf c3
      refine lv_aload_n hx hb dX8_person_24 rfl (lv_at hl 0 rfl) ?_
      refine lv_bipush (v := (-2)) hx hb dX8_person_25 (by decide) ?_
      obtain ⟨q8, hq8, hf⟩ := nc_bi hf
      refine nc_callVi cx hw lk_X8_71 (c_X8_refuse l h0 mi (-2) q8 hq8) (ci := 8) rfl (lModel_is h0) rfl hl.1 rfl (Nat.le_of_ble_eq_true rfl) ⟨rfl, rfl, Nat.le_of_ble_eq_true rfl, Nat.le_of_ble_eq_true rfl⟩ dX8_person_27 (fun H locs hw => ?_)
      exact nc_rpm hret hf rfl hw dX8_person_30
  · have hf := nc_ifp hf c2
    refine lv_aload_n hx hb dX8_person_8 rfl (lv_at hl 0 rfl) ?_
    refine lv_iconst (v := (-1)) hx hb dX8_person_9 (by decide) ?_
    obtain ⟨q9, hq9, hf⟩ := nc_bi hf
    refine nc_callVi cx hw lk_X8_71 (c_X8_refuse l h0 mi (-1) q9 hq9) (ci := 8) rfl (lModel_is h0) rfl hl.1 rfl (Nat.le_of_ble_eq_true rfl) ⟨rfl, rfl, Nat.le_of_ble_eq_true rfl, Nat.le_of_ble_eq_true rfl⟩ dX8_person_10 (fun H locs hw => ?_)
    exact nc_rpm hret hf rfl hw dX8_person_13
abbrev rm_X8_thing : Room := { frames := 2, cells := 0, slots := 0, locals := 43 }
set_option maxRecDepth 100000 in
set_option maxHeartbeats 4000000 in
theorem c_X8_thing (l : Launch) {G : nc_G} {K : nc_K} {o : Nat} (h0 : nc_LModel G K o) (mi : nc_Mem) (a1 a2 : Int32) (res : nc_Mem × Int32) (hf : f_X8_thing mi o a1 a2 = some res) : nc_M l yX8_thing cX8_thing 3 (some .int) rm_X8_thing 0 0 G K K [.ref o, .int a1, .int a2] mi res.1 (some (.int res.2)) := by
  refine nc_meet_i (by decide) (Nat.le_of_ble_eq_true rfl) ?_
  intro p e s m args below meth c Q H locs ls cx hret hw hl
  have cx : nc_C p s m args c cX8_thing 3 RX8 G := cx
  have hl : lv_has ls 3 [(0, .ref o), (1, .int a1), (2, .int a2)] := hl
  have hx := cx.1
  have hb := cx.2.1
  unfold f_X8_thing at hf
  refine lv_aload_n hx hb dX8_thing_0 rfl (lv_at hl 0 rfl) ?_
  refine lv_iload_n hx hb dX8_thing_1 rfl (lv_at hl 1 rfl) ?_
  obtain ⟨q1, hq1, hf⟩ := nc_bi hf
  refine nc_callVi cx hw lk_X8_145 (c_X8_isThing l h0 mi a1 q1 hq1) (ci := 8) rfl (lModel_is h0) rfl hl.1 rfl (Nat.le_of_ble_eq_true rfl) ⟨rfl, rfl, Nat.le_of_ble_eq_true rfl, Nat.le_of_ble_eq_true rfl⟩ dX8_thing_2 (fun H locs hw => ?_)
  refine lv_if_ne (tgt := 14) hx hb dX8_thing_5 (by decide) (fun c2 => ?_) (fun c2 => ?_)
  · have hf := nc_ifn hf c2
    refine lv_iload_n hx hb dX8_thing_14 rfl (lv_at hl 2 rfl) ?_
    refine lv_iconst (v := 0) hx hb dX8_thing_15 (by decide) ?_
    refine lv_bipush (v := 9) hx hb dX8_thing_16 (by decide) ?_
    refine nc_callSi cx hw lk_X8_61 (c_X8_in l  mi a2 0 9 _ rfl) rfl hl.1 rfl (Nat.le_of_ble_eq_true rfl) ⟨rfl, rfl, Nat.le_of_ble_eq_true rfl, Nat.le_of_ble_eq_true rfl⟩ dX8_thing_18 (fun H locs hw => ?_)
    refine lv_if_eq (tgt := 35) hx hb dX8_thing_21 (by decide) (fun c3 => ?_) (fun c3 => ?_)
    · have hf := nc_ifp hf c3
      refine lv_aload_n hx hb dX8_thing_35 rfl (lv_at hl 0 rfl) ?_
      refine lv_bipush (v := (-2)) hx hb dX8_thing_36 (by decide) ?_
      obtain ⟨q4, hq4, hf⟩ := nc_bi hf
      refine nc_callVi cx hw lk_X8_71 (c_X8_refuse l h0 mi (-2) q4 hq4) (ci := 8) rfl (lModel_is h0) rfl hl.1 rfl (Nat.le_of_ble_eq_true rfl) ⟨rfl, rfl, Nat.le_of_ble_eq_true rfl, Nat.le_of_ble_eq_true rfl⟩ dX8_thing_38 (fun H locs hw => ?_)
      exact nc_rpm hret hf rfl hw dX8_thing_41
    · have hf := nc_ifn hf c3
      refine lv_aload_n hx hb dX8_thing_24 rfl (lv_at hl 0 rfl) ?_
      refine gr_X8_31 cx hw (lModel_is h0) (lModel_thing h0) ((lModel_thing_L h0)).1 dX8_thing_25 ?_
      refine lv_iload_n hx hb dX8_thing_28 rfl (lv_at hl 1 rfl) ?_
      obtain ⟨j5, ej5, ij5, lj5, hf⟩ := nc_ix hf
      refine nc_ald cx hw (by decide) ((lModel_thing_L h0)).1 ij5 ej5 (((lModel_thing_L h0)).2 j5 lj5).1 (((lModel_thing_L h0)).2 j5 lj5).2 dX8_thing_29 ?_
      refine lv_iload_n hx hb dX8_thing_30 rfl (lv_at hl 2 rfl) ?_
      obtain ⟨j6, ej6, ij6, lj6, hf⟩ := nc_ix hf
      refine nc_ild cx hw (((lModel_thing_L h0)).2 j5 lj5).2 ij6 ej6 dX8_thing_31 ?_
      refine lv_goto (tgt := 41) hx hb dX8_thing_32 (by decide) ?_
      exact nc_rpm hret hf rfl hw dX8_thing_41
  · have hf := nc_ifp hf c2
    refine lv_aload_n hx hb dX8_thing_8 rfl (lv_at hl 0 rfl) ?_
    refine lv_iconst (v := (-1)) hx hb dX8_thing_9 (by decide) ?_
    obtain ⟨q7, hq7, hf⟩ := nc_bi hf
    refine nc_callVi cx hw lk_X8_71 (c_X8_refuse l h0 mi (-1) q7 hq7) (ci := 8) rfl (lModel_is h0) rfl hl.1 rfl (Nat.le_of_ble_eq_true rfl) ⟨rfl, rfl, Nat.le_of_ble_eq_true rfl, Nat.le_of_ble_eq_true rfl⟩ dX8_thing_10 (fun H locs hw => ?_)
    exact nc_rpm hret hf rfl hw dX8_thing_13
abbrev rm_X8_law : Room := { frames := 1, cells := 0, slots := 0, locals := 22 }
set_option maxRecDepth 100000 in
set_option maxHeartbeats 4000000 in
theorem c_X8_law (l : Launch) {G : nc_G} {K : nc_K} {o : Nat} (h0 : nc_LModel G K o) (mi : nc_Mem) (a1 : Int32) (res : nc_Mem × Int32) (hf : f_X8_law mi o a1 = some res) : nc_M l yX8_law cX8_law 3 (some .int) rm_X8_law 0 0 G K K [.ref o, .int a1] mi res.1 (some (.int res.2)) := by
  refine nc_meet_i (by decide) (Nat.le_of_ble_eq_true rfl) ?_
  intro p e s m args below meth c Q H locs ls cx hret hw hl
  have cx : nc_C p s m args c cX8_law 3 RX8 G := cx
  have hl : lv_has ls 3 [(0, .ref o), (1, .int a1)] := hl
  have hx := cx.1
  have hb := cx.2.1
  unfold f_X8_law at hf
  refine lv_iload_n hx hb dX8_law_0 rfl (lv_at hl 1 rfl) ?_
  refine lv_iconst (v := 0) hx hb dX8_law_1 (by decide) ?_
  refine lv_iconst (v := 4) hx hb dX8_law_2 (by decide) ?_
  refine nc_callSi cx hw lk_X8_61 (c_X8_in l  mi a1 0 4 _ rfl) rfl hl.1 rfl (Nat.le_of_ble_eq_true rfl) ⟨rfl, rfl, Nat.le_of_ble_eq_true rfl, Nat.le_of_ble_eq_true rfl⟩ dX8_law_3 (fun H locs hw => ?_)
  refine lv_if_ne (tgt := 16) hx hb dX8_law_6 (by decide) (fun c1 => ?_) (fun c1 => ?_)
  · have hf := nc_ifn hf c1
    refine lv_aload_n hx hb dX8_law_16 rfl (lv_at hl 0 rfl) ?_
    refine gi_X8_148 cx hw (lModel_is h0) dX8_law_17 ?_
    refine lv_topi (fun x2 ex2 => ?_)
    have hf := nc_let_at hf ex2
    refine lv_istore_n (lv' := [(2, .int x2), (0, .ref o), (1, .int a1)]) hx hb dX8_law_20 rfl hl (by decide) rfl (fun ls hl => ?_)
    refine lv_aload_n hx hb dX8_law_21 rfl (lv_at hl 1 rfl) ?_
    refine lv_iload_n hx hb dX8_law_22 rfl (lv_at hl 2 rfl) ?_
    refine pi_X8_148 cx hw (lModel_is h0) dX8_law_23 (fun mi3 H locs emi3 hw => ?_)
    have hf := nc_let_at hf emi3
    refine lv_iload_n hx hb dX8_law_26 rfl (lv_at hl 0 rfl) ?_
    exact nc_rpm hret hf rfl hw dX8_law_27
  · have hf := nc_ifp hf c1
    refine lv_aload_n hx hb dX8_law_9 rfl (lv_at hl 0 rfl) ?_
    refine lv_bipush (v := (-2)) hx hb dX8_law_10 (by decide) ?_
    obtain ⟨q4, hq4, hf⟩ := nc_bi hf
    refine nc_callVi cx hw lk_X8_71 (c_X8_refuse l h0 mi (-2) q4 hq4) (ci := 8) rfl (lModel_is h0) rfl hl.1 rfl (Nat.le_of_ble_eq_true rfl) ⟨rfl, rfl, Nat.le_of_ble_eq_true rfl, Nat.le_of_ble_eq_true rfl⟩ dX8_law_12 (fun H locs hw => ?_)
    exact nc_rpm hret hf rfl hw dX8_law_15
abbrev rm_X8_isOwner : Room := { frames := 0, cells := 0, slots := 0, locals := 0 }
set_option maxRecDepth 100000 in
set_option maxHeartbeats 4000000 in
theorem c_X8_isOwner (l : Launch) {G : nc_G} {K : nc_K} {o : Nat} (h0 : nc_LModel G K o) (mi : nc_Mem) (a1 a2 : Int32) (res : Int32) (hf : f_X8_isOwner mi o a1 a2 = some res) : nc_M l yX8_isOwner cX8_isOwner 3 (some .boolean) rm_X8_isOwner 0 0 G K K [.ref o, .int a1, .int a2] mi mi (some (.int res)) := by
  refine nc_meet_i (by decide) (Nat.le_of_ble_eq_true rfl) ?_
  intro p e s m args below meth c Q H locs ls cx hret hw hl
  have cx : nc_C p s m args c cX8_isOwner 3 RX8 G := cx
  have hl : lv_has ls 3 [(0, .ref o), (1, .int a1), (2, .int a2)] := hl
  have hx := cx.1
  have hb := cx.2.1
  unfold f_X8_isOwner at hf
  refine lv_aload_n hx hb dX8_isOwner_0 rfl (lv_at hl 0 rfl) ?_
  refine gr_X8_31 cx hw (lModel_is h0) (lModel_thing h0) ((lModel_thing_L h0)).1 dX8_isOwner_1 ?_
  refine lv_iload_n hx hb dX8_isOwner_4 rfl (lv_at hl 2 rfl) ?_
  obtain ⟨j1, ej1, ij1, lj1, hf⟩ := nc_ix hf
  refine nc_ald cx hw (by decide) ((lModel_thing_L h0)).1 ij1 ej1 (((lModel_thing_L h0)).2 j1 lj1).1 (((lModel_thing_L h0)).2 j1 lj1).2 dX8_isOwner_5 ?_
  refine lv_iconst (v := 0) hx hb dX8_isOwner_6 (by decide) ?_
  refine nc_ild cx hw (((lModel_thing_L h0)).2 j1 lj1).2 (nc_lit (j := 0) rfl (by decide) (by decide)) rfl dX8_isOwner_7 ?_
  refine lv_iload_n hx hb dX8_isOwner_8 rfl (lv_at hl 1 rfl) ?_
  refine lv_icmp_eq (tgt := 24) hx hb dX8_isOwner_9 (by decide) (fun c2 => ?_) (fun c2 => ?_)
  · have hf := nc_ifp hf c2
    refine lv_iconst (v := 1) hx hb dX8_isOwner_24 (by decide) ?_
    refine lv_goto (tgt := 29) hx hb dX8_isOwner_25 (by decide) ?_
    exact nc_rpp hret hf rfl hw dX8_isOwner_29
  · have hf := nc_ifn hf c2
    refine lv_aload_n hx hb dX8_isOwner_12 rfl (lv_at hl 0 rfl) ?_
    refine gr_X8_31 cx hw (lModel_is h0) (lModel_thing h0) ((lModel_thing_L h0)).1 dX8_isOwner_13 ?_
    refine lv_iload_n hx hb dX8_isOwner_16 rfl (lv_at hl 2 rfl) ?_
    refine nc_ald cx hw (by decide) ((lModel_thing_L h0)).1 ij1 ej1 (((lModel_thing_L h0)).2 j1 lj1).1 (((lModel_thing_L h0)).2 j1 lj1).2 dX8_isOwner_17 ?_
    refine lv_iconst (v := 1) hx hb dX8_isOwner_18 (by decide) ?_
    refine nc_ild cx hw (((lModel_thing_L h0)).2 j1 lj1).2 (nc_lit (j := 1) rfl (by decide) (by decide)) rfl dX8_isOwner_19 ?_
    refine lv_iload_n hx hb dX8_isOwner_20 rfl (lv_at hl 1 rfl) ?_
    refine lv_icmp_ne (tgt := 28) hx hb dX8_isOwner_21 (by decide) (fun c3 => ?_) (fun c3 => ?_)
    · have hf := nc_ifn hf c3
      refine lv_iconst (v := 0) hx hb dX8_isOwner_28 (by decide) ?_
      exact nc_rpp hret hf rfl hw dX8_isOwner_29
    · have hf := nc_ifp hf c3
      refine lv_iconst (v := 1) hx hb dX8_isOwner_24 (by decide) ?_
      refine lv_goto (tgt := 29) hx hb dX8_isOwner_25 (by decide) ?_
      exact nc_rpp hret hf rfl hw dX8_isOwner_29
abbrev rm_X8_isKin : Room := { frames := 0, cells := 0, slots := 0, locals := 0 }
set_option maxRecDepth 100000 in
set_option maxHeartbeats 4000000 in
theorem c_X8_isKin (l : Launch) {G : nc_G} {K : nc_K} {o : Nat} (h0 : nc_LModel G K o) (mi : nc_Mem) (a1 a2 : Int32) (res : Int32) (hf : f_X8_isKin mi o a1 a2 = some res) : nc_M l yX8_isKin cX8_isKin 4 (some .boolean) rm_X8_isKin 0 0 G K K [.ref o, .int a1, .int a2] mi mi (some (.int res)) := by
  refine nc_meet_i (by decide) (Nat.le_of_ble_eq_true rfl) ?_
  intro p e s m args below meth c Q H locs ls cx hret hw hl
  have cx : nc_C p s m args c cX8_isKin 4 RX8 G := cx
  have hl : lv_has ls 4 [(0, .ref o), (1, .int a1), (2, .int a2)] := hl
  have hx := cx.1
  have hb := cx.2.1
  unfold f_X8_isKin at hf
  refine lv_aload_n hx hb dX8_isKin_0 rfl (lv_at hl 0 rfl) ?_
  refine gr_X8_28 cx hw (lModel_is h0) (lModel_person h0) ((lModel_person_L h0)).1 dX8_isKin_1 ?_
  refine lv_iload_n hx hb dX8_isKin_4 rfl (lv_at hl 1 rfl) ?_
  obtain ⟨j1, ej1, ij1, lj1, hf⟩ := nc_ix hf
  refine nc_ald cx hw (by decide) ((lModel_person_L h0)).1 ij1 ej1 (((lModel_person_L h0)).2 j1 lj1).1 (((lModel_person_L h0)).2 j1 lj1).2 dX8_isKin_5 ?_
  refine lv_iconst (v := 3) hx hb dX8_isKin_6 (by decide) ?_
  refine nc_ild cx hw (((lModel_person_L h0)).2 j1 lj1).2 (nc_lit (j := 3) rfl (by decide) (by decide)) rfl dX8_isKin_7 ?_
  refine lv_topi (fun x2 ex2 => ?_)
  have hf := nc_let_at hf ex2
  refine lv_istore_n (lv' := [(3, .int x2), (0, .ref o), (1, .int a1), (2, .int a2)]) hx hb dX8_isKin_8 rfl hl (by decide) rfl (fun ls hl => ?_)
  refine lv_iload_n hx hb dX8_isKin_9 rfl (lv_at hl 0 rfl) ?_
  refine lv_if_eq (tgt := 55) hx hb dX8_isKin_10 (by decide) (fun c3 => ?_) (fun c3 => ?_)
  · have hf := nc_ifp hf c3
    refine lv_iconst (v := 0) hx hb dX8_isKin_55 (by decide) ?_
    exact nc_rpp hret hf rfl hw dX8_isKin_56
  · have hf := nc_ifn hf c3
    refine lv_aload_n hx hb dX8_isKin_13 rfl (lv_at hl 1 rfl) ?_
    refine gr_X8_28 cx hw (lModel_is h0) (lModel_person h0) ((lModel_person_L h0)).1 dX8_isKin_14 ?_
    refine lv_aload_n hx hb dX8_isKin_17 rfl (lv_at hl 1 rfl) ?_
    refine gr_X8_31 cx hw (lModel_is h0) (lModel_thing h0) ((lModel_thing_L h0)).1 dX8_isKin_18 ?_
    refine lv_iload_n hx hb dX8_isKin_21 rfl (lv_at hl 3 rfl) ?_
    obtain ⟨j4, ej4, ij4, lj4, hf⟩ := nc_ix hf
    refine nc_ald cx hw (by decide) ((lModel_thing_L h0)).1 ij4 ej4 (((lModel_thing_L h0)).2 j4 lj4).1 (((lModel_thing_L h0)).2 j4 lj4).2 dX8_isKin_22 ?_
    refine lv_iconst (v := 0) hx hb dX8_isKin_23 (by decide) ?_
    refine nc_ild cx hw (((lModel_thing_L h0)).2 j4 lj4).2 (nc_lit (j := 0) rfl (by decide) (by decide)) rfl dX8_isKin_24 ?_
    obtain ⟨j5, ej5, ij5, lj5, hf⟩ := nc_ix hf
    refine nc_ald cx hw (by decide) ((lModel_person_L h0)).1 ij5 ej5 (((lModel_person_L h0)).2 j5 lj5).1 (((lModel_person_L h0)).2 j5 lj5).2 dX8_isKin_25 ?_
    refine lv_iconst (v := 3) hx hb dX8_isKin_26 (by decide) ?_
    refine nc_ild cx hw (((lModel_person_L h0)).2 j5 lj5).2 (nc_lit (j := 3) rfl (by decide) (by decide)) rfl dX8_isKin_27 ?_
    refine lv_iload_n hx hb dX8_isKin_28 rfl (lv_at hl 0 rfl) ?_
    refine lv_icmp_eq (tgt := 51) hx hb dX8_isKin_29 (by decide) (fun c6 => ?_) (fun c6 => ?_)
    · have hf := nc_ifp hf c6
      refine lv_iconst (v := 1) hx hb dX8_isKin_51 (by decide) ?_
      refine lv_goto (tgt := 56) hx hb dX8_isKin_52 (by decide) ?_
      exact nc_rpp hret hf rfl hw dX8_isKin_56
    · have hf := nc_ifn hf c6
      refine lv_aload_n hx hb dX8_isKin_32 rfl (lv_at hl 1 rfl) ?_
      refine gr_X8_28 cx hw (lModel_is h0) (lModel_person h0) ((lModel_person_L h0)).1 dX8_isKin_33 ?_
      refine lv_aload_n hx hb dX8_isKin_36 rfl (lv_at hl 1 rfl) ?_
      refine gr_X8_31 cx hw (lModel_is h0) (lModel_thing h0) ((lModel_thing_L h0)).1 dX8_isKin_37 ?_
      refine lv_iload_n hx hb dX8_isKin_40 rfl (lv_at hl 3 rfl) ?_
      refine nc_ald cx hw (by decide) ((lModel_thing_L h0)).1 ij4 ej4 (((lModel_thing_L h0)).2 j4 lj4).1 (((lModel_thing_L h0)).2 j4 lj4).2 dX8_isKin_41 ?_
      refine lv_iconst (v := 1) hx hb dX8_isKin_42 (by decide) ?_
      refine nc_ild cx hw (((lModel_thing_L h0)).2 j4 lj4).2 (nc_lit (j := 1) rfl (by decide) (by decide)) rfl dX8_isKin_43 ?_
      obtain ⟨j7, ej7, ij7, lj7, hf⟩ := nc_ix hf
      refine nc_ald cx hw (by decide) ((lModel_person_L h0)).1 ij7 ej7 (((lModel_person_L h0)).2 j7 lj7).1 (((lModel_person_L h0)).2 j7 lj7).2 dX8_isKin_44 ?_
      refine lv_iconst (v := 3) hx hb dX8_isKin_45 (by decide) ?_
      refine nc_ild cx hw (((lModel_person_L h0)).2 j7 lj7).2 (nc_lit (j := 3) rfl (by decide) (by decide)) rfl dX8_isKin_46 ?_
      refine lv_iload_n hx hb dX8_isKin_47 rfl (lv_at hl 0 rfl) ?_
      refine lv_icmp_ne (tgt := 55) hx hb dX8_isKin_48 (by decide) (fun c8 => ?_) (fun c8 => ?_)
      · have hf := nc_ifn hf c8
        refine lv_iconst (v := 0) hx hb dX8_isKin_55 (by decide) ?_
        exact nc_rpp hret hf rfl hw dX8_isKin_56
      · have hf := nc_ifp hf c8
        refine lv_iconst (v := 1) hx hb dX8_isKin_51 (by decide) ?_
        refine lv_goto (tgt := 56) hx hb dX8_isKin_52 (by decide) ?_
        exact nc_rpp hret hf rfl hw dX8_isKin_56
abbrev rm_X8_lets : Room := { frames := 1, cells := 0, slots := 0, locals := 23 }
set_option maxRecDepth 100000 in
set_option maxHeartbeats 4000000 in
theorem c_X8_lets (l : Launch) {G : nc_G} {K : nc_K} {o : Nat} (h0 : nc_LModel G K o) (mi : nc_Mem) (a1 a2 a3 a4 a5 : Int32) (res : Int32) (hf : f_X8_lets mi o a1 a2 a3 a4 a5 = some res) : nc_M l yX8_lets cX8_lets 6 (some .boolean) rm_X8_lets 0 0 G K K [.ref o, .int a1, .int a2, .int a3, .int a4, .int a5] mi mi (some (.int res)) := by
  refine nc_meet_i (by decide) (Nat.le_of_ble_eq_true rfl) ?_
  intro p e s m args below meth c Q H locs ls cx hret hw hl
  have cx : nc_C p s m args c cX8_lets 6 RX8 G := cx
  have hl : lv_has ls 6 [(0, .ref o), (1, .int a1), (2, .int a2), (3, .int a3), (4, .int a4), (5, .int a5)] := hl
  have hx := cx.1
  have hb := cx.2.1
  unfold f_X8_lets at hf
  refine lv_iload_n hx hb dX8_lets_0 rfl (lv_at hl 1 rfl) ?_
  by_cases c1 : a1 = 0
  · have hf := nc_ifp hf c1
    refine lv_tableIn (tgt := 32) (off := 31) hx hb dX8_lets_1 (by rw [c1]; decide) (by rw [c1]; decide) (by rw [c1]; rfl) (by decide) ?_
    refine lv_aload_n hx hb dX8_lets_32 rfl (lv_at hl 0 rfl) ?_
    refine lv_iload_n hx hb dX8_lets_33 rfl (lv_at hl 2 rfl) ?_
    refine lv_iload_n hx hb dX8_lets_34 rfl (lv_at hl 3 rfl) ?_
    obtain ⟨q2, hq2, hf⟩ := nc_bi hf
    refine nc_callVi cx hw lk_X8_151 (c_X8_isOwner l h0 mi a2 a3 q2 hq2) (ci := 8) rfl (lModel_is h0) rfl hl.1 rfl (Nat.le_of_ble_eq_true rfl) ⟨rfl, rfl, Nat.le_of_ble_eq_true rfl, Nat.le_of_ble_eq_true rfl⟩ dX8_lets_35 (fun H locs hw => ?_)
    refine lv_if_ne (tgt := 45) hx hb dX8_lets_38 (by decide) (fun c3 => ?_) (fun c3 => ?_)
    · have hf := nc_ifn hf c3
      refine lv_iconst (v := 0) hx hb dX8_lets_45 (by decide) ?_
      exact nc_rpp hret hf rfl hw dX8_lets_46
    · have hf := nc_ifp hf c3
      refine lv_iconst (v := 1) hx hb dX8_lets_41 (by decide) ?_
      refine lv_goto (tgt := 46) hx hb dX8_lets_42 (by decide) ?_
      exact nc_rpp hret hf rfl hw dX8_lets_46
  · have hf := nc_ifn hf c1
    by_cases c4 : a1 = 1
    · have hf := nc_ifp hf c4
      refine lv_tableIn (tgt := 47) (off := 46) hx hb dX8_lets_1 (by rw [c4]; decide) (by rw [c4]; decide) (by rw [c4]; rfl) (by decide) ?_
      refine lv_aload_n hx hb dX8_lets_47 rfl (lv_at hl 0 rfl) ?_
      refine lv_iload_n hx hb dX8_lets_48 rfl (lv_at hl 2 rfl) ?_
      refine lv_iload_n hx hb dX8_lets_49 rfl (lv_at hl 3 rfl) ?_
      obtain ⟨q5, hq5, hf⟩ := nc_bi hf
      refine nc_callVi cx hw lk_X8_151 (c_X8_isOwner l h0 mi a2 a3 q5 hq5) (ci := 8) rfl (lModel_is h0) rfl hl.1 rfl (Nat.le_of_ble_eq_true rfl) ⟨rfl, rfl, Nat.le_of_ble_eq_true rfl, Nat.le_of_ble_eq_true rfl⟩ dX8_lets_50 (fun H locs hw => ?_)
      refine lv_if_ne (tgt := 69) hx hb dX8_lets_53 (by decide) (fun c6 => ?_) (fun c6 => ?_)
      · have hf := nc_ifn hf c6
        refine lv_iconst (v := 0) hx hb dX8_lets_69 (by decide) ?_
        exact nc_rpp hret hf rfl hw dX8_lets_70
      · have hf := nc_ifp hf c6
        refine lv_aload_n hx hb dX8_lets_56 rfl (lv_at hl 0 rfl) ?_
        refine lv_iload_n hx hb dX8_lets_57 rfl (lv_at hl 2 rfl) ?_
        refine lv_iload_n hx hb dX8_lets_58 rfl (lv_at hl 3 rfl) ?_
        obtain ⟨q7, hq7, hf⟩ := nc_bi hf
        refine nc_callVi cx hw lk_X8_155 (c_X8_isKin l h0 mi a2 a3 q7 hq7) (ci := 8) rfl (lModel_is h0) rfl hl.1 rfl (Nat.le_of_ble_eq_true rfl) ⟨rfl, rfl, Nat.le_of_ble_eq_true rfl, Nat.le_of_ble_eq_true rfl⟩ dX8_lets_59 (fun H locs hw => ?_)
        refine lv_if_ne (tgt := 69) hx hb dX8_lets_62 (by decide) (fun c8 => ?_) (fun c8 => ?_)
        · have hf := nc_ifn hf c8
          refine lv_iconst (v := 0) hx hb dX8_lets_69 (by decide) ?_
          exact nc_rpp hret hf rfl hw dX8_lets_70
        · have hf := nc_ifp hf c8
          refine lv_iconst (v := 1) hx hb dX8_lets_65 (by decide) ?_
          refine lv_goto (tgt := 70) hx hb dX8_lets_66 (by decide) ?_
          exact nc_rpp hret hf rfl hw dX8_lets_70
    · have hf := nc_ifn hf c4
      by_cases c9 : a1 = 2
      · have hf := nc_ifp hf c9
        refine lv_tableIn (tgt := 71) (off := 70) hx hb dX8_lets_1 (by rw [c9]; decide) (by rw [c9]; decide) (by rw [c9]; rfl) (by decide) ?_
        refine lv_aload_n hx hb dX8_lets_71 rfl (lv_at hl 0 rfl) ?_
        refine lv_iload_n hx hb dX8_lets_72 rfl (lv_at hl 2 rfl) ?_
        refine lv_iload_n hx hb dX8_lets_73 rfl (lv_at hl 3 rfl) ?_
        obtain ⟨q10, hq10, hf⟩ := nc_bi hf
        refine nc_callVi cx hw lk_X8_151 (c_X8_isOwner l h0 mi a2 a3 q10 hq10) (ci := 8) rfl (lModel_is h0) rfl hl.1 rfl (Nat.le_of_ble_eq_true rfl) ⟨rfl, rfl, Nat.le_of_ble_eq_true rfl, Nat.le_of_ble_eq_true rfl⟩ dX8_lets_74 (fun H locs hw => ?_)
        refine lv_if_eq (tgt := 101) hx hb dX8_lets_77 (by decide) (fun c11 => ?_) (fun c11 => ?_)
        · have hf := nc_ifp hf c11
          refine lv_iconst (v := 1) hx hb dX8_lets_101 (by decide) ?_
          refine lv_goto (tgt := 106) hx hb dX8_lets_102 (by decide) ?_
          exact nc_rpp hret hf rfl hw dX8_lets_106
        · have hf := nc_ifn hf c11
          refine lv_iload hx hb dX8_lets_80 (lv_at hl 5 rfl) ?_
          refine lv_bipush (v := (-9)) hx hb dX8_lets_82 (by decide) ?_
          refine lv_icmp_eq (tgt := 105) hx hb dX8_lets_84 (by decide) (fun c12 => ?_) (fun c12 => ?_)
          · have hf := nc_ifp hf c12
            refine lv_iconst (v := 0) hx hb dX8_lets_105 (by decide) ?_
            exact nc_rpp hret hf rfl hw dX8_lets_106
          · have hf := nc_ifn hf c12
            refine lv_iload hx hb dX8_lets_87 (lv_at hl 4 rfl) ?_
            refine lv_iload hx hb dX8_lets_89 (lv_at hl 5 rfl) ?_
            refine lv_isub hx hb dX8_lets_91 ?_
            refine lv_iconst (v := 0) hx hb dX8_lets_92 (by decide) ?_
            refine lv_bipush (v := 59) hx hb dX8_lets_93 (by decide) ?_
            refine nc_callSi cx hw lk_X8_61 (c_X8_in l  mi (a4 - a5) 0 59 _ rfl) rfl hl.1 rfl (Nat.le_of_ble_eq_true rfl) ⟨rfl, rfl, Nat.le_of_ble_eq_true rfl, Nat.le_of_ble_eq_true rfl⟩ dX8_lets_95 (fun H locs hw => ?_)
            refine lv_if_eq (tgt := 105) hx hb dX8_lets_98 (by decide) (fun c13 => ?_) (fun c13 => ?_)
            · have hf := nc_ifp hf c13
              refine lv_iconst (v := 0) hx hb dX8_lets_105 (by decide) ?_
              exact nc_rpp hret hf rfl hw dX8_lets_106
            · have hf := nc_ifn hf c13
              refine lv_iconst (v := 1) hx hb dX8_lets_101 (by decide) ?_
              refine lv_goto (tgt := 106) hx hb dX8_lets_102 (by decide) ?_
              exact nc_rpp hret hf rfl hw dX8_lets_106
      · have hf := nc_ifn hf c9
        by_cases c14 : a1 = 3
        · have hf := nc_ifp hf c14
          refine lv_tableIn (tgt := 107) (off := 106) hx hb dX8_lets_1 (by rw [c14]; decide) (by rw [c14]; decide) (by rw [c14]; rfl) (by decide) ?_
          refine lv_iconst (v := 1) hx hb dX8_lets_107 (by decide) ?_
          exact nc_rpp hret hf rfl hw dX8_lets_108
        · have hf := nc_ifn hf c14
          refine lv_tableOut (tgt := 109) hx hb dX8_lets_1 (by have nc1 := lv_neT (a := 0) c1 (by decide); have nc4 := lv_neT (a := 1) c4 (by decide); have nc9 := lv_neT (a := 2) c9 (by decide); have nc14 := lv_neT (a := 3) c14 (by decide); omega) (by decide) ?_
          refine lv_iload hx hb dX8_lets_109 (lv_at hl 4 rfl) ?_
          refine lv_sipush (v := 720) hx hb dX8_lets_111 (by decide) ?_
          refine lv_icmp_ge (tgt := 135) hx hb dX8_lets_114 (by decide) (fun c15 => ?_) (fun c15 => ?_)
          · have hf := nc_ifp hf c15
            refine lv_iconst (v := 1) hx hb dX8_lets_135 (by decide) ?_
            refine lv_goto (tgt := 140) hx hb dX8_lets_136 (by decide) ?_
            exact nc_rpp hret hf rfl hw dX8_lets_140
          · have hf := nc_ifn hf c15
            refine lv_aload_n hx hb dX8_lets_117 rfl (lv_at hl 0 rfl) ?_
            refine lv_iload_n hx hb dX8_lets_118 rfl (lv_at hl 2 rfl) ?_
            refine lv_iload_n hx hb dX8_lets_119 rfl (lv_at hl 3 rfl) ?_
            obtain ⟨q16, hq16, hf⟩ := nc_bi hf
            refine nc_callVi cx hw lk_X8_151 (c_X8_isOwner l h0 mi a2 a3 q16 hq16) (ci := 8) rfl (lModel_is h0) rfl hl.1 rfl (Nat.le_of_ble_eq_true rfl) ⟨rfl, rfl, Nat.le_of_ble_eq_true rfl, Nat.le_of_ble_eq_true rfl⟩ dX8_lets_120 (fun H locs hw => ?_)
            refine lv_if_ne (tgt := 139) hx hb dX8_lets_123 (by decide) (fun c17 => ?_) (fun c17 => ?_)
            · have hf := nc_ifn hf c17
              refine lv_iconst (v := 0) hx hb dX8_lets_139 (by decide) ?_
              exact nc_rpp hret hf rfl hw dX8_lets_140
            · have hf := nc_ifp hf c17
              refine lv_aload_n hx hb dX8_lets_126 rfl (lv_at hl 0 rfl) ?_
              refine lv_iload_n hx hb dX8_lets_127 rfl (lv_at hl 2 rfl) ?_
              refine lv_iload_n hx hb dX8_lets_128 rfl (lv_at hl 3 rfl) ?_
              obtain ⟨q18, hq18, hf⟩ := nc_bi hf
              refine nc_callVi cx hw lk_X8_155 (c_X8_isKin l h0 mi a2 a3 q18 hq18) (ci := 8) rfl (lModel_is h0) rfl hl.1 rfl (Nat.le_of_ble_eq_true rfl) ⟨rfl, rfl, Nat.le_of_ble_eq_true rfl, Nat.le_of_ble_eq_true rfl⟩ dX8_lets_129 (fun H locs hw => ?_)
              refine lv_if_ne (tgt := 139) hx hb dX8_lets_132 (by decide) (fun c19 => ?_) (fun c19 => ?_)
              · have hf := nc_ifn hf c19
                refine lv_iconst (v := 0) hx hb dX8_lets_139 (by decide) ?_
                exact nc_rpp hret hf rfl hw dX8_lets_140
              · have hf := nc_ifp hf c19
                refine lv_iconst (v := 1) hx hb dX8_lets_135 (by decide) ?_
                refine lv_goto (tgt := 140) hx hb dX8_lets_136 (by decide) ?_
                exact nc_rpp hret hf rfl hw dX8_lets_140
abbrev rm_X8_isFree : Room := { frames := 0, cells := 0, slots := 0, locals := 0 }
set_option maxRecDepth 100000 in
set_option maxHeartbeats 4000000 in
theorem c_X8_isFree (l : Launch) {G : nc_G} {K : nc_K} {o : Nat} (h0 : nc_LModel G K o) (mi : nc_Mem) (a1 a2 : Int32) (res : Int32) (hf : f_X8_isFree mi o a1 a2 = some res) : nc_M l yX8_isFree cX8_isFree 3 (some .boolean) rm_X8_isFree 0 0 G K K [.ref o, .int a1, .int a2] mi mi (some (.int res)) := by
  refine nc_meet_i (by decide) (Nat.le_of_ble_eq_true rfl) ?_
  intro p e s m args below meth c Q H locs ls cx hret hw hl
  have cx : nc_C p s m args c cX8_isFree 3 RX8 G := cx
  have hl : lv_has ls 3 [(0, .ref o), (1, .int a1), (2, .int a2)] := hl
  have hx := cx.1
  have hb := cx.2.1
  unfold f_X8_isFree at hf
  refine lv_aload_n hx hb dX8_isFree_0 rfl (lv_at hl 0 rfl) ?_
  refine gr_X8_31 cx hw (lModel_is h0) (lModel_thing h0) ((lModel_thing_L h0)).1 dX8_isFree_1 ?_
  refine lv_iload_n hx hb dX8_isFree_4 rfl (lv_at hl 2 rfl) ?_
  obtain ⟨j1, ej1, ij1, lj1, hf⟩ := nc_ix hf
  refine nc_ald cx hw (by decide) ((lModel_thing_L h0)).1 ij1 ej1 (((lModel_thing_L h0)).2 j1 lj1).1 (((lModel_thing_L h0)).2 j1 lj1).2 dX8_isFree_5 ?_
  refine lv_iconst (v := 4) hx hb dX8_isFree_6 (by decide) ?_
  refine nc_ild cx hw (((lModel_thing_L h0)).2 j1 lj1).2 (nc_lit (j := 4) rfl (by decide) (by decide)) rfl dX8_isFree_7 ?_
  refine lv_aload_n hx hb dX8_isFree_8 rfl (lv_at hl 0 rfl) ?_
  refine gr_X8_28 cx hw (lModel_is h0) (lModel_person h0) ((lModel_person_L h0)).1 dX8_isFree_9 ?_
  refine lv_iload_n hx hb dX8_isFree_12 rfl (lv_at hl 1 rfl) ?_
  obtain ⟨j2, ej2, ij2, lj2, hf⟩ := nc_ix hf
  refine nc_ald cx hw (by decide) ((lModel_person_L h0)).1 ij2 ej2 (((lModel_person_L h0)).2 j2 lj2).1 (((lModel_person_L h0)).2 j2 lj2).2 dX8_isFree_13 ?_
  refine lv_iconst (v := 4) hx hb dX8_isFree_14 (by decide) ?_
  refine nc_ild cx hw (((lModel_person_L h0)).2 j2 lj2).2 (nc_lit (j := 4) rfl (by decide) (by decide)) rfl dX8_isFree_15 ?_
  refine lv_icmp_gt (tgt := 23) hx hb dX8_isFree_16 (by decide) (fun c3 => ?_) (fun c3 => ?_)
  · have hf := nc_ifp hf c3
    refine lv_iconst (v := 0) hx hb dX8_isFree_23 (by decide) ?_
    exact nc_rpp hret hf rfl hw dX8_isFree_24
  · have hf := nc_ifn hf c3
    refine lv_iconst (v := 1) hx hb dX8_isFree_19 (by decide) ?_
    refine lv_goto (tgt := 24) hx hb dX8_isFree_20 (by decide) ?_
    exact nc_rpp hret hf rfl hw dX8_isFree_24
abbrev rm_X8_mayNow : Room := { frames := 2, cells := 0, slots := 0, locals := 48 }
set_option maxRecDepth 100000 in
set_option maxHeartbeats 4000000 in
theorem c_X8_mayNow (l : Launch) {G : nc_G} {K : nc_K} {o : Nat} (h0 : nc_LModel G K o) (mi : nc_Mem) (a1 a2 a3 : Int32) (res : Int32) (hf : f_X8_mayNow mi o a1 a2 a3 = some res) : nc_M l yX8_mayNow cX8_mayNow 4 (some .boolean) rm_X8_mayNow 0 0 G K K [.ref o, .int a1, .int a2, .int a3] mi mi (some (.int res)) := by
  refine nc_meet_i (by decide) (Nat.le_of_ble_eq_true rfl) ?_
  intro p e s m args below meth c Q H locs ls cx hret hw hl
  have cx : nc_C p s m args c cX8_mayNow 4 RX8 G := cx
  have hl : lv_has ls 4 [(0, .ref o), (1, .int a1), (2, .int a2), (3, .int a3)] := hl
  have hx := cx.1
  have hb := cx.2.1
  unfold f_X8_mayNow at hf
  refine lv_aload_n hx hb dX8_mayNow_0 rfl (lv_at hl 0 rfl) ?_
  refine lv_iload_n hx hb dX8_mayNow_1 rfl (lv_at hl 1 rfl) ?_
  refine lv_iload_n hx hb dX8_mayNow_2 rfl (lv_at hl 2 rfl) ?_
  obtain ⟨q1, hq1, hf⟩ := nc_bi hf
  refine nc_callVi cx hw lk_X8_158 (c_X8_isFree l h0 mi a1 a2 q1 hq1) (ci := 8) rfl (lModel_is h0) rfl hl.1 rfl (Nat.le_of_ble_eq_true rfl) ⟨rfl, rfl, Nat.le_of_ble_eq_true rfl, Nat.le_of_ble_eq_true rfl⟩ dX8_mayNow_3 (fun H locs hw => ?_)
  refine lv_if_eq (tgt := 36) hx hb dX8_mayNow_6 (by decide) (fun c2 => ?_) (fun c2 => ?_)
  · have hf := nc_ifp hf c2
    refine lv_iconst (v := 0) hx hb dX8_mayNow_36 (by decide) ?_
    exact nc_rpp hret hf rfl hw dX8_mayNow_37
  · have hf := nc_ifn hf c2
    refine lv_aload_n hx hb dX8_mayNow_9 rfl (lv_at hl 0 rfl) ?_
    refine lv_aload_n hx hb dX8_mayNow_10 rfl (lv_at hl 0 rfl) ?_
    refine gi_X8_148 cx hw (lModel_is h0) dX8_mayNow_11 ?_
    refine lv_iload_n hx hb dX8_mayNow_14 rfl (lv_at hl 1 rfl) ?_
    refine lv_iload_n hx hb dX8_mayNow_15 rfl (lv_at hl 2 rfl) ?_
    refine lv_iload_n hx hb dX8_mayNow_16 rfl (lv_at hl 3 rfl) ?_
    refine lv_aload_n hx hb dX8_mayNow_17 rfl (lv_at hl 0 rfl) ?_
    refine gr_X8_31 cx hw (lModel_is h0) (lModel_thing h0) ((lModel_thing_L h0)).1 dX8_mayNow_18 ?_
    refine lv_iload_n hx hb dX8_mayNow_21 rfl (lv_at hl 2 rfl) ?_
    obtain ⟨j3, ej3, ij3, lj3, hf⟩ := nc_ix hf
    refine nc_ald cx hw (by decide) ((lModel_thing_L h0)).1 ij3 ej3 (((lModel_thing_L h0)).2 j3 lj3).1 (((lModel_thing_L h0)).2 j3 lj3).2 dX8_mayNow_22 ?_
    refine lv_bipush (v := 9) hx hb dX8_mayNow_23 (by decide) ?_
    refine nc_ild cx hw (((lModel_thing_L h0)).2 j3 lj3).2 (nc_lit (j := 9) rfl (by decide) (by decide)) rfl dX8_mayNow_25 ?_
    obtain ⟨q4, hq4, hf⟩ := nc_bi hf
    refine nc_callVi cx hw lk_X8_161 (c_X8_lets l h0 mi (mi o 11) a1 a2 a3 (mi (o + 19 + 1 + j3) 9) q4 hq4) (ci := 8) rfl (lModel_is h0) rfl hl.1 rfl (Nat.le_of_ble_eq_true rfl) ⟨rfl, rfl, Nat.le_of_ble_eq_true rfl, Nat.le_of_ble_eq_true rfl⟩ dX8_mayNow_26 (fun H locs hw => ?_)
    refine lv_if_eq (tgt := 36) hx hb dX8_mayNow_29 (by decide) (fun c5 => ?_) (fun c5 => ?_)
    · have hf := nc_ifp hf c5
      refine lv_iconst (v := 0) hx hb dX8_mayNow_36 (by decide) ?_
      exact nc_rpp hret hf rfl hw dX8_mayNow_37
    · have hf := nc_ifn hf c5
      refine lv_iconst (v := 1) hx hb dX8_mayNow_32 (by decide) ?_
      refine lv_goto (tgt := 37) hx hb dX8_mayNow_33 (by decide) ?_
      exact nc_rpp hret hf rfl hw dX8_mayNow_37
abbrev rm_X8_may : Room := { frames := 3, cells := 0, slots := 0, locals := 71 }
set_option maxRecDepth 100000 in
set_option maxHeartbeats 4000000 in
theorem c_X8_may (l : Launch) {G : nc_G} {K : nc_K} {o : Nat} (h0 : nc_LModel G K o) (mi : nc_Mem) (a1 a2 a3 : Int32) (res : nc_Mem × Int32) (hf : f_X8_may mi o a1 a2 a3 = some res) : nc_M l yX8_may cX8_may 4 (some .int) rm_X8_may 0 0 G K K [.ref o, .int a1, .int a2, .int a3] mi res.1 (some (.int res.2)) := by
  refine nc_meet_i (by decide) (Nat.le_of_ble_eq_true rfl) ?_
  intro p e s m args below meth c Q H locs ls cx hret hw hl
  have cx : nc_C p s m args c cX8_may 4 RX8 G := cx
  have hl : lv_has ls 4 [(0, .ref o), (1, .int a1), (2, .int a2), (3, .int a3)] := hl
  have hx := cx.1
  have hb := cx.2.1
  unfold f_X8_may at hf
  refine lv_aload_n hx hb dX8_may_0 rfl (lv_at hl 0 rfl) ?_
  refine lv_iload_n hx hb dX8_may_1 rfl (lv_at hl 1 rfl) ?_
  obtain ⟨q1, hq1, hf⟩ := nc_bi hf
  refine nc_callVi cx hw lk_X8_108 (c_X8_isPerson l h0 mi a1 q1 hq1) (ci := 8) rfl (lModel_is h0) rfl hl.1 rfl (Nat.le_of_ble_eq_true rfl) ⟨rfl, rfl, Nat.le_of_ble_eq_true rfl, Nat.le_of_ble_eq_true rfl⟩ dX8_may_2 (fun H locs hw => ?_)
  obtain ⟨k2, ek2, hf⟩ := nc_jn_of hf
  have hk2 : k2 = some res → ∀ (H : Heap) (locs : List Loc) (ls : Array Slot), nc_W G K mi H locs → lv_has ls 4 [(0, .ref o)] → W p l e rm_X8_may s m args below meth c H locs 0 0 Q (F0 m 16 ls []) := by
    intro hf H locs ls hw hl
    have hf := (ek2).symm.trans hf
    refine lv_aload_n hx hb dX8_may_16 rfl (lv_at hl 0 rfl) ?_
    refine lv_iconst (v := (-1)) hx hb dX8_may_17 (by decide) ?_
    obtain ⟨q3, hq3, hf⟩ := nc_bi hf
    refine nc_callVi cx hw lk_X8_71 (c_X8_refuse l h0 mi (-1) q3 hq3) (ci := 8) rfl (lModel_is h0) rfl hl.1 rfl (Nat.le_of_ble_eq_true rfl) ⟨rfl, rfl, Nat.le_of_ble_eq_true rfl, Nat.le_of_ble_eq_true rfl⟩ dX8_may_18 (fun H locs hw => ?_)
    exact nc_rpm hret hf rfl hw dX8_may_21
  refine lv_if_eq (tgt := 16) hx hb dX8_may_5 (by decide) (fun c4 => ?_) (fun c4 => ?_)
  · have hf := nc_ifp hf c4
    exact hk2 hf _ _ _ hw (lv_sub hl [0] rfl)
  · have hf := nc_ifn hf c4
    refine lv_aload_n hx hb dX8_may_8 rfl (lv_at hl 0 rfl) ?_
    refine lv_iload_n hx hb dX8_may_9 rfl (lv_at hl 2 rfl) ?_
    obtain ⟨q5, hq5, hf⟩ := nc_bi hf
    refine nc_callVi cx hw lk_X8_145 (c_X8_isThing l h0 mi a2 q5 hq5) (ci := 8) rfl (lModel_is h0) rfl hl.1 rfl (Nat.le_of_ble_eq_true rfl) ⟨rfl, rfl, Nat.le_of_ble_eq_true rfl, Nat.le_of_ble_eq_true rfl⟩ dX8_may_10 (fun H locs hw => ?_)
    refine lv_if_ne (tgt := 22) hx hb dX8_may_13 (by decide) (fun c6 => ?_) (fun c6 => ?_)
    · have hf := nc_ifn hf c6
      refine lv_iload_n hx hb dX8_may_22 rfl (lv_at hl 3 rfl) ?_
      refine lv_if_ge (tgt := 33) hx hb dX8_may_23 (by decide) (fun c7 => ?_) (fun c7 => ?_)
      · have hf := nc_ifp hf c7
        refine lv_iload_n hx hb dX8_may_33 rfl (lv_at hl 3 rfl) ?_
        refine lv_sipush (v := 9999) hx hb dX8_may_34 (by decide) ?_
        refine lv_icmp_le (tgt := 47) hx hb dX8_may_37 (by decide) (fun c8 => ?_) (fun c8 => ?_)
        · have hf := nc_ifp hf c8
          refine lv_aload_n hx hb dX8_may_47 rfl (lv_at hl 0 rfl) ?_
          refine lv_iload_n hx hb dX8_may_48 rfl (lv_at hl 1 rfl) ?_
          refine lv_iload_n hx hb dX8_may_49 rfl (lv_at hl 2 rfl) ?_
          refine lv_iload_n hx hb dX8_may_50 rfl (lv_at hl 3 rfl) ?_
          obtain ⟨q9, hq9, hf⟩ := nc_bi hf
          refine nc_callVi cx hw lk_X8_165 (c_X8_mayNow l h0 mi a1 a2 a3 q9 hq9) (ci := 8) rfl (lModel_is h0) rfl hl.1 rfl (Nat.le_of_ble_eq_true rfl) ⟨rfl, rfl, Nat.le_of_ble_eq_true rfl, Nat.le_of_ble_eq_true rfl⟩ dX8_may_51 (fun H locs hw => ?_)
          refine lv_if_eq (tgt := 61) hx hb dX8_may_54 (by decide) (fun c10 => ?_) (fun c10 => ?_)
          · have hf := nc_ifp hf c10
            refine lv_iconst (v := 0) hx hb dX8_may_61 (by decide) ?_
            exact nc_rpm hret hf rfl hw dX8_may_62
          · have hf := nc_ifn hf c10
            refine lv_iconst (v := 1) hx hb dX8_may_57 (by decide) ?_
            refine lv_goto (tgt := 62) hx hb dX8_may_58 (by decide) ?_
            exact nc_rpm hret hf rfl hw dX8_may_62
        · have hf := nc_ifn hf c8
          refine lv_aload_n hx hb dX8_may_40 rfl (lv_at hl 0 rfl) ?_
          refine lv_bipush (v := (-6)) hx hb dX8_may_41 (by decide) ?_
          obtain ⟨q11, hq11, hf⟩ := nc_bi hf
          refine nc_callVi cx hw lk_X8_71 (c_X8_refuse l h0 mi (-6) q11 hq11) (ci := 8) rfl (lModel_is h0) rfl hl.1 rfl (Nat.le_of_ble_eq_true rfl) ⟨rfl, rfl, Nat.le_of_ble_eq_true rfl, Nat.le_of_ble_eq_true rfl⟩ dX8_may_43 (fun H locs hw => ?_)
          exact nc_rpm hret hf rfl hw dX8_may_46
      · have hf := nc_ifn hf c7
        refine lv_aload_n hx hb dX8_may_26 rfl (lv_at hl 0 rfl) ?_
        refine lv_bipush (v := (-4)) hx hb dX8_may_27 (by decide) ?_
        obtain ⟨q12, hq12, hf⟩ := nc_bi hf
        refine nc_callVi cx hw lk_X8_71 (c_X8_refuse l h0 mi (-4) q12 hq12) (ci := 8) rfl (lModel_is h0) rfl hl.1 rfl (Nat.le_of_ble_eq_true rfl) ⟨rfl, rfl, Nat.le_of_ble_eq_true rfl, Nat.le_of_ble_eq_true rfl⟩ dX8_may_29 (fun H locs hw => ?_)
        exact nc_rpm hret hf rfl hw dX8_may_32
    · have hf := nc_ifp hf c6
      exact hk2 hf _ _ _ hw (lv_sub hl [0] rfl)
abbrev rm_X8_sizeOn : Room := { frames := 0, cells := 0, slots := 0, locals := 0 }
set_option maxRecDepth 100000 in
set_option maxHeartbeats 4000000 in
theorem c_X8_sizeOn (l : Launch) {G : nc_G} {K : nc_K} {o : Nat} (h0 : nc_LModel G K o) (mi : nc_Mem) (a1 : Int32) (res : Int32) (hf : f_X8_sizeOn mi o a1 = some res) : nc_M l yX8_sizeOn cX8_sizeOn 4 (some .int) rm_X8_sizeOn 0 0 G K K [.ref o, .int a1] mi mi (some (.int res)) := by
  refine nc_meet_i (by decide) (Nat.le_of_ble_eq_true rfl) ?_
  intro p e s m args below meth c Q H locs ls cx hret hw hl
  have cx : nc_C p s m args c cX8_sizeOn 4 RX8 G := cx
  have hl : lv_has ls 4 [(0, .ref o), (1, .int a1)] := hl
  have hx := cx.1
  have hb := cx.2.1
  unfold f_X8_sizeOn at hf
  refine lv_iconst (v := 0) hx hb dX8_sizeOn_0 (by decide) ?_
  refine lv_istore_n (lv' := [(2, .int 0), (0, .ref o), (1, .int a1)]) hx hb dX8_sizeOn_1 rfl hl (by decide) rfl (fun ls hl => ?_)
  refine lv_iconst (v := 0) hx hb dX8_sizeOn_2 (by decide) ?_
  refine lv_istore_n (lv' := [(3, .int 0), (2, .int 0), (0, .ref o), (1, .int a1)]) hx hb dX8_sizeOn_3 rfl hl (by decide) rfl (fun ls hl => ?_)
  refine nc_loop_w (P := fun κ : Int32 → Int32 → Option (Int32) => ∀ (x1 : Int32) (x2 : Int32), κ x1 x2 = some res → ∀ (H : Heap) (locs : List Loc) (ls : Array Slot), nc_W G K mi H locs → lv_has ls 4 [(0, .ref o), (1, .int a1), (2, .int x1), (3, .int x2)] → W p l e rm_X8_sizeOn s m args below meth c H locs 0 0 Q (F0 m 4 ls [])) ?_ ?_ 200 _ _ hf _ _ _ hw (lv_sub hl [2, 3, 1, 0] rfl)
  · intro x1 x2 hf; exact absurd hf (by intro q; cases q)
  · intro rc3 ihrc3 x1 x2 hf H locs ls hw hl
    unfold B_X8_sizeOn_4 at hf
    refine lv_iload_n hx hb dX8_sizeOn_4 rfl (lv_at hl 3 rfl) ?_
    refine lv_aload_n hx hb dX8_sizeOn_5 rfl (lv_at hl 0 rfl) ?_
    refine gi_X8_68 cx hw (lModel_is h0) dX8_sizeOn_6 ?_
    refine lv_icmp_ge (tgt := 49) hx hb dX8_sizeOn_9 (by decide) (fun c4 => ?_) (fun c4 => ?_)
    · have hf := nc_ifp hf c4
      refine lv_iload_n hx hb dX8_sizeOn_49 rfl (lv_at hl 2 rfl) ?_
      exact nc_rpp hret hf rfl hw dX8_sizeOn_50
    · have hf := nc_ifn hf c4
      refine lv_iload_n hx hb dX8_sizeOn_12 rfl (lv_at hl 2 rfl) ?_
      refine lv_aload_n hx hb dX8_sizeOn_13 rfl (lv_at hl 0 rfl) ?_
      refine gr_X8_31 cx hw (lModel_is h0) (lModel_thing h0) ((lModel_thing_L h0)).1 dX8_sizeOn_14 ?_
      refine lv_iload_n hx hb dX8_sizeOn_17 rfl (lv_at hl 3 rfl) ?_
      obtain ⟨j5, ej5, ij5, lj5, hf⟩ := nc_ix hf
      refine nc_ald cx hw (by decide) ((lModel_thing_L h0)).1 ij5 ej5 (((lModel_thing_L h0)).2 j5 lj5).1 (((lModel_thing_L h0)).2 j5 lj5).2 dX8_sizeOn_18 ?_
      refine lv_bipush (v := 7) hx hb dX8_sizeOn_19 (by decide) ?_
      refine nc_ild cx hw (((lModel_thing_L h0)).2 j5 lj5).2 (nc_lit (j := 7) rfl (by decide) (by decide)) rfl dX8_sizeOn_21 ?_
      refine lv_bipush (v := 10) hx hb dX8_sizeOn_22 (by decide) ?_
      refine lv_iload_n hx hb dX8_sizeOn_24 rfl (lv_at hl 1 rfl) ?_
      refine lv_iadd hx hb dX8_sizeOn_25 ?_
      refine lv_icmp_ne (tgt := 40) hx hb dX8_sizeOn_26 (by decide) (fun c6 => ?_) (fun c6 => ?_)
      · have hf := nc_ifn hf c6
        refine lv_iconst (v := 0) hx hb dX8_sizeOn_40 (by decide) ?_
        refine lv_iadd hx hb dX8_sizeOn_41 ?_
        refine lv_topi (fun x7 ex7 => ?_)
        have hf := nc_let_at hf ex7
        refine lv_istore_n (lv' := [(2, .int x7), (0, .ref o), (1, .int a1), (3, .int x2)]) hx hb dX8_sizeOn_42 rfl hl (by decide) rfl (fun ls hl => ?_)
        obtain ⟨x8, ex8⟩ : ∃ y : Int32, y = x2 + 1 := ⟨_, rfl⟩
        have hf := nc_let_at hf ex8
        refine lv_iinc (v := x8) (lv' := [(3, .int x8), (2, .int x7), (0, .ref o), (1, .int a1)]) hx hb dX8_sizeOn_43 hl (k := 3) rfl (by rw [ex8]; rfl) (by decide) rfl (fun ls hl => ?_)
        refine lv_goto (tgt := 4) hx hb dX8_sizeOn_46 (by decide) ?_
        exact ihrc3 _ _ hf _ _ _ hw (lv_sub hl [2, 3, 1, 0] rfl)
      · have hf := nc_ifp hf c6
        refine lv_aload_n hx hb dX8_sizeOn_29 rfl (lv_at hl 0 rfl) ?_
        refine gr_X8_31 cx hw (lModel_is h0) (lModel_thing h0) ((lModel_thing_L h0)).1 dX8_sizeOn_30 ?_
        refine lv_iload_n hx hb dX8_sizeOn_33 rfl (lv_at hl 3 rfl) ?_
        refine nc_ald cx hw (by decide) ((lModel_thing_L h0)).1 ij5 ej5 (((lModel_thing_L h0)).2 j5 lj5).1 (((lModel_thing_L h0)).2 j5 lj5).2 dX8_sizeOn_34 ?_
        refine lv_iconst (v := 4) hx hb dX8_sizeOn_35 (by decide) ?_
        refine nc_ild cx hw (((lModel_thing_L h0)).2 j5 lj5).2 (nc_lit (j := 4) rfl (by decide) (by decide)) rfl dX8_sizeOn_36 ?_
        refine lv_goto (tgt := 41) hx hb dX8_sizeOn_37 (by decide) ?_
        refine lv_iadd hx hb dX8_sizeOn_41 ?_
        refine lv_topi (fun x9 ex9 => ?_)
        have hf := nc_let_at hf ex9
        refine lv_istore_n (lv' := [(2, .int x9), (0, .ref o), (1, .int a1), (3, .int x2)]) hx hb dX8_sizeOn_42 rfl hl (by decide) rfl (fun ls hl => ?_)
        obtain ⟨x10, ex10⟩ : ∃ y : Int32, y = x2 + 1 := ⟨_, rfl⟩
        have hf := nc_let_at hf ex10
        refine lv_iinc (v := x10) (lv' := [(3, .int x10), (2, .int x9), (0, .ref o), (1, .int a1)]) hx hb dX8_sizeOn_43 hl (k := 3) rfl (by rw [ex10]; rfl) (by decide) rfl (fun ls hl => ?_)
        refine lv_goto (tgt := 4) hx hb dX8_sizeOn_46 (by decide) ?_
        exact ihrc3 _ _ hf _ _ _ hw (lv_sub hl [2, 3, 1, 0] rfl)
abbrev rm_X8_hasRoom : Room := { frames := 1, cells := 0, slots := 0, locals := 23 }
set_option maxRecDepth 100000 in
set_option maxHeartbeats 4000000 in
theorem c_X8_hasRoom (l : Launch) {G : nc_G} {K : nc_K} {o : Nat} (h0 : nc_LModel G K o) (mi : nc_Mem) (a1 a2 : Int32) (res : Int32) (hf : f_X8_hasRoom mi o a1 a2 = some res) : nc_M l yX8_hasRoom cX8_hasRoom 3 (some .boolean) rm_X8_hasRoom 0 0 G K K [.ref o, .int a1, .int a2] mi mi (some (.int res)) := by
  refine nc_meet_i (by decide) (Nat.le_of_ble_eq_true rfl) ?_
  intro p e s m args below meth c Q H locs ls cx hret hw hl
  have cx : nc_C p s m args c cX8_hasRoom 3 RX8 G := cx
  have hl : lv_has ls 3 [(0, .ref o), (1, .int a1), (2, .int a2)] := hl
  have hx := cx.1
  have hb := cx.2.1
  unfold f_X8_hasRoom at hf
  refine lv_aload_n hx hb dX8_hasRoom_0 rfl (lv_at hl 0 rfl) ?_
  refine lv_iload_n hx hb dX8_hasRoom_1 rfl (lv_at hl 1 rfl) ?_
  obtain ⟨q1, hq1, hf⟩ := nc_bi hf
  refine nc_callVi cx hw lk_X8_168 (c_X8_sizeOn l h0 mi a1 q1 hq1) (ci := 8) rfl (lModel_is h0) rfl hl.1 rfl (Nat.le_of_ble_eq_true rfl) ⟨rfl, rfl, Nat.le_of_ble_eq_true rfl, Nat.le_of_ble_eq_true rfl⟩ dX8_hasRoom_2 (fun H locs hw => ?_)
  refine lv_aload_n hx hb dX8_hasRoom_5 rfl (lv_at hl 0 rfl) ?_
  refine gr_X8_31 cx hw (lModel_is h0) (lModel_thing h0) ((lModel_thing_L h0)).1 dX8_hasRoom_6 ?_
  refine lv_iload_n hx hb dX8_hasRoom_9 rfl (lv_at hl 2 rfl) ?_
  obtain ⟨j2, ej2, ij2, lj2, hf⟩ := nc_ix hf
  refine nc_ald cx hw (by decide) ((lModel_thing_L h0)).1 ij2 ej2 (((lModel_thing_L h0)).2 j2 lj2).1 (((lModel_thing_L h0)).2 j2 lj2).2 dX8_hasRoom_10 ?_
  refine lv_iconst (v := 4) hx hb dX8_hasRoom_11 (by decide) ?_
  refine nc_ild cx hw (((lModel_thing_L h0)).2 j2 lj2).2 (nc_lit (j := 4) rfl (by decide) (by decide)) rfl dX8_hasRoom_12 ?_
  refine lv_iadd hx hb dX8_hasRoom_13 ?_
  refine lv_aload_n hx hb dX8_hasRoom_14 rfl (lv_at hl 0 rfl) ?_
  refine gr_X8_28 cx hw (lModel_is h0) (lModel_person h0) ((lModel_person_L h0)).1 dX8_hasRoom_15 ?_
  refine lv_iload_n hx hb dX8_hasRoom_18 rfl (lv_at hl 1 rfl) ?_
  obtain ⟨j3, ej3, ij3, lj3, hf⟩ := nc_ix hf
  refine nc_ald cx hw (by decide) ((lModel_person_L h0)).1 ij3 ej3 (((lModel_person_L h0)).2 j3 lj3).1 (((lModel_person_L h0)).2 j3 lj3).2 dX8_hasRoom_19 ?_
  refine lv_iconst (v := 4) hx hb dX8_hasRoom_20 (by decide) ?_
  refine nc_ild cx hw (((lModel_person_L h0)).2 j3 lj3).2 (nc_lit (j := 4) rfl (by decide) (by decide)) rfl dX8_hasRoom_21 ?_
  refine lv_icmp_gt (tgt := 29) hx hb dX8_hasRoom_22 (by decide) (fun c4 => ?_) (fun c4 => ?_)
  · have hf := nc_ifp hf c4
    refine lv_iconst (v := 0) hx hb dX8_hasRoom_29 (by decide) ?_
    exact nc_rpp hret hf rfl hw dX8_hasRoom_30
  · have hf := nc_ifn hf c4
    refine lv_iconst (v := 1) hx hb dX8_hasRoom_25 (by decide) ?_
    refine lv_goto (tgt := 30) hx hb dX8_hasRoom_26 (by decide) ?_
    exact nc_rpp hret hf rfl hw dX8_hasRoom_30
abbrev rm_X8_later : Room := { frames := 0, cells := 0, slots := 0, locals := 0 }
set_option maxRecDepth 100000 in
set_option maxHeartbeats 4000000 in
theorem c_X8_later (l : Launch) {G : nc_G} {K : nc_K}   (mi : nc_Mem) (a0 a1 : Int32) (res : Int32) (hf : f_X8_later mi a0 a1 = res) : nc_M l yX8_later cX8_later 2 (some .int) rm_X8_later 0 0 G K K [.int a0, .int a1] mi mi (some (.int res)) := by
  refine nc_meet_i (by decide) (Nat.le_of_ble_eq_true rfl) ?_
  intro p e s m args below meth c Q H locs ls cx hret hw hl
  have cx : nc_C p s m args c cX8_later 2 RX8 G := cx
  have hl : lv_has ls 2 [(0, .int a0), (1, .int a1)] := hl
  have hx := cx.1
  have hb := cx.2.1
  unfold f_X8_later at hf
  refine lv_iload_n hx hb dX8_later_0 rfl (lv_at hl 0 rfl) ?_
  refine lv_iload_n hx hb dX8_later_1 rfl (lv_at hl 1 rfl) ?_
  refine lv_icmp_le (tgt := 9) hx hb dX8_later_2 (by decide) (fun c1 => ?_) (fun c1 => ?_)
  · have hf := nc_ifp hf c1
    refine lv_iload_n hx hb dX8_later_9 rfl (lv_at hl 1 rfl) ?_
    exact nc_rtp hret hf rfl hw dX8_later_10
  · have hf := nc_ifn hf c1
    refine lv_iload_n hx hb dX8_later_5 rfl (lv_at hl 0 rfl) ?_
    refine lv_goto (tgt := 10) hx hb dX8_later_6 (by decide) ?_
    exact nc_rtp hret hf rfl hw dX8_later_10
abbrev rm_X8_take : Room := { frames := 3, cells := 0, slots := 0, locals := 71 }
set_option maxRecDepth 100000 in
set_option maxHeartbeats 4000000 in
theorem c_X8_take (l : Launch) {G : nc_G} {K : nc_K} {o : Nat} (h0 : nc_LModel G K o) (mi : nc_Mem) (a1 a2 : Int32) (res : nc_Mem × Int32) (hf : f_X8_take mi o a1 a2 = some res) : nc_M l yX8_take cX8_take 4 (some .int) rm_X8_take 0 0 G K K [.ref o, .int a1, .int a2] mi res.1 (some (.int res.2)) := by
  refine nc_meet_i (by decide) (Nat.le_of_ble_eq_true rfl) ?_
  intro p e s m args below meth c Q H locs ls cx hret hw hl
  have cx : nc_C p s m args c cX8_take 4 RX8 G := cx
  have hl : lv_has ls 4 [(0, .ref o), (1, .int a1), (2, .int a2)] := hl
  have hx := cx.1
  have hb := cx.2.1
  unfold f_X8_take at hf
  refine lv_aload_n hx hb dX8_take_0 rfl (lv_at hl 0 rfl) ?_
  refine lv_iload_n hx hb dX8_take_1 rfl (lv_at hl 1 rfl) ?_
  obtain ⟨q1, hq1, hf⟩ := nc_bi hf
  refine nc_callVi cx hw lk_X8_108 (c_X8_isPerson l h0 mi a1 q1 hq1) (ci := 8) rfl (lModel_is h0) rfl hl.1 rfl (Nat.le_of_ble_eq_true rfl) ⟨rfl, rfl, Nat.le_of_ble_eq_true rfl, Nat.le_of_ble_eq_true rfl⟩ dX8_take_2 (fun H locs hw => ?_)
  obtain ⟨k2, ek2, hf⟩ := nc_jn_of hf
  have hk2 : k2 = some res → ∀ (H : Heap) (locs : List Loc) (ls : Array Slot), nc_W G K mi H locs → lv_has ls 4 [(0, .ref o)] → W p l e rm_X8_take s m args below meth c H locs 0 0 Q (F0 m 16 ls []) := by
    intro hf H locs ls hw hl
    have hf := (ek2).symm.trans hf
    refine lv_aload_n hx hb dX8_take_16 rfl (lv_at hl 0 rfl) ?_
    refine lv_iconst (v := (-1)) hx hb dX8_take_17 (by decide) ?_
    obtain ⟨q3, hq3, hf⟩ := nc_bi hf
    refine nc_callVi cx hw lk_X8_71 (c_X8_refuse l h0 mi (-1) q3 hq3) (ci := 8) rfl (lModel_is h0) rfl hl.1 rfl (Nat.le_of_ble_eq_true rfl) ⟨rfl, rfl, Nat.le_of_ble_eq_true rfl, Nat.le_of_ble_eq_true rfl⟩ dX8_take_18 (fun H locs hw => ?_)
    exact nc_rpm hret hf rfl hw dX8_take_21
  refine lv_if_eq (tgt := 16) hx hb dX8_take_5 (by decide) (fun c4 => ?_) (fun c4 => ?_)
  · have hf := nc_ifp hf c4
    exact hk2 hf _ _ _ hw (lv_sub hl [0] rfl)
  · have hf := nc_ifn hf c4
    refine lv_aload_n hx hb dX8_take_8 rfl (lv_at hl 0 rfl) ?_
    refine lv_iload_n hx hb dX8_take_9 rfl (lv_at hl 2 rfl) ?_
    obtain ⟨q5, hq5, hf⟩ := nc_bi hf
    refine nc_callVi cx hw lk_X8_145 (c_X8_isThing l h0 mi a2 q5 hq5) (ci := 8) rfl (lModel_is h0) rfl hl.1 rfl (Nat.le_of_ble_eq_true rfl) ⟨rfl, rfl, Nat.le_of_ble_eq_true rfl, Nat.le_of_ble_eq_true rfl⟩ dX8_take_10 (fun H locs hw => ?_)
    refine lv_if_ne (tgt := 22) hx hb dX8_take_13 (by decide) (fun c6 => ?_) (fun c6 => ?_)
    · have hf := nc_ifn hf c6
      refine lv_aload_n hx hb dX8_take_22 rfl (lv_at hl 0 rfl) ?_
      refine gr_X8_28 cx hw (lModel_is h0) (lModel_person h0) ((lModel_person_L h0)).1 dX8_take_23 ?_
      refine lv_iload_n hx hb dX8_take_26 rfl (lv_at hl 1 rfl) ?_
      obtain ⟨j7, ej7, ij7, lj7, hf⟩ := nc_ix hf
      refine nc_ald cx hw (by decide) ((lModel_person_L h0)).1 ij7 ej7 (((lModel_person_L h0)).2 j7 lj7).1 (((lModel_person_L h0)).2 j7 lj7).2 dX8_take_27 ?_
      refine lv_bipush (v := 6) hx hb dX8_take_28 (by decide) ?_
      refine nc_ild cx hw (((lModel_person_L h0)).2 j7 lj7).2 (nc_lit (j := 6) rfl (by decide) (by decide)) rfl dX8_take_30 ?_
      refine lv_aload_n hx hb dX8_take_31 rfl (lv_at hl 0 rfl) ?_
      refine gr_X8_31 cx hw (lModel_is h0) (lModel_thing h0) ((lModel_thing_L h0)).1 dX8_take_32 ?_
      refine lv_iload_n hx hb dX8_take_35 rfl (lv_at hl 2 rfl) ?_
      obtain ⟨j8, ej8, ij8, lj8, hf⟩ := nc_ix hf
      refine nc_ald cx hw (by decide) ((lModel_thing_L h0)).1 ij8 ej8 (((lModel_thing_L h0)).2 j8 lj8).1 (((lModel_thing_L h0)).2 j8 lj8).2 dX8_take_36 ?_
      refine lv_bipush (v := 8) hx hb dX8_take_37 (by decide) ?_
      refine nc_ild cx hw (((lModel_thing_L h0)).2 j8 lj8).2 (nc_lit (j := 8) rfl (by decide) (by decide)) rfl dX8_take_39 ?_
      refine nc_callSi cx hw lk_X8_171 (c_X8_later l  mi (mi (o + 12 + 1 + j7) 6) (mi (o + 19 + 1 + j8) 8) _ rfl) rfl hl.1 rfl (Nat.le_of_ble_eq_true rfl) ⟨rfl, rfl, Nat.le_of_ble_eq_true rfl, Nat.le_of_ble_eq_true rfl⟩ dX8_take_40 (fun H locs hw => ?_)
      refine lv_topi (fun x9 ex9 => ?_)
      have hf := nc_let_at hf ex9
      refine lv_istore_n (lv' := [(3, .int x9), (0, .ref o), (1, .int a1), (2, .int a2)]) hx hb dX8_take_43 rfl hl (by decide) rfl (fun ls hl => ?_)
      refine lv_aload_n hx hb dX8_take_44 rfl (lv_at hl 1 rfl) ?_
      refine gr_X8_31 cx hw (lModel_is h0) (lModel_thing h0) ((lModel_thing_L h0)).1 dX8_take_45 ?_
      refine lv_iload_n hx hb dX8_take_48 rfl (lv_at hl 3 rfl) ?_
      refine nc_ald cx hw (by decide) ((lModel_thing_L h0)).1 ij8 ej8 (((lModel_thing_L h0)).2 j8 lj8).1 (((lModel_thing_L h0)).2 j8 lj8).2 dX8_take_49 ?_
      refine lv_bipush (v := 7) hx hb dX8_take_50 (by decide) ?_
      refine nc_ild cx hw (((lModel_thing_L h0)).2 j8 lj8).2 (nc_lit (j := 7) rfl (by decide) (by decide)) rfl dX8_take_52 ?_
      refine lv_aload_n hx hb dX8_take_53 rfl (lv_at hl 1 rfl) ?_
      refine gr_X8_28 cx hw (lModel_is h0) (lModel_person h0) ((lModel_person_L h0)).1 dX8_take_54 ?_
      refine lv_iload_n hx hb dX8_take_57 rfl (lv_at hl 2 rfl) ?_
      refine nc_ald cx hw (by decide) ((lModel_person_L h0)).1 ij7 ej7 (((lModel_person_L h0)).2 j7 lj7).1 (((lModel_person_L h0)).2 j7 lj7).2 dX8_take_58 ?_
      refine lv_iconst (v := 5) hx hb dX8_take_59 (by decide) ?_
      refine nc_ild cx hw (((lModel_person_L h0)).2 j7 lj7).2 (nc_lit (j := 5) rfl (by decide) (by decide)) rfl dX8_take_60 ?_
      obtain ⟨k10, ek10, hf⟩ := nc_jn_of hf
      have hk10 : k10 = some res → ∀ (H : Heap) (locs : List Loc) (ls : Array Slot), nc_W G K mi H locs → lv_has ls 4 [(0, .ref o)] → W p l e rm_X8_take s m args below meth c H locs 0 0 Q (F0 m 83 ls []) := by
        intro hf H locs ls hw hl
        have hf := (ek10).symm.trans hf
        refine lv_aload_n hx hb dX8_take_83 rfl (lv_at hl 0 rfl) ?_
        refine lv_bipush (v := (-3)) hx hb dX8_take_84 (by decide) ?_
        obtain ⟨q11, hq11, hf⟩ := nc_bi hf
        refine nc_callVi cx hw lk_X8_71 (c_X8_refuse l h0 mi (-3) q11 hq11) (ci := 8) rfl (lModel_is h0) rfl hl.1 rfl (Nat.le_of_ble_eq_true rfl) ⟨rfl, rfl, Nat.le_of_ble_eq_true rfl, Nat.le_of_ble_eq_true rfl⟩ dX8_take_86 (fun H locs hw => ?_)
        exact nc_rpm hret hf rfl hw dX8_take_89
      refine lv_icmp_ne (tgt := 83) hx hb dX8_take_61 (by decide) (fun c12 => ?_) (fun c12 => ?_)
      · have hf := nc_ifn hf c12
        exact hk10 hf _ _ _ hw (lv_sub hl [1] rfl)
      · have hf := nc_ifp hf c12
        refine lv_aload_n hx hb dX8_take_64 rfl (lv_at hl 1 rfl) ?_
        refine lv_iload_n hx hb dX8_take_65 rfl (lv_at hl 2 rfl) ?_
        refine lv_iload_n hx hb dX8_take_66 rfl (lv_at hl 3 rfl) ?_
        refine lv_iload_n hx hb dX8_take_67 rfl (lv_at hl 0 rfl) ?_
        obtain ⟨q13, hq13, hf⟩ := nc_bi hf
        refine nc_callVi cx hw lk_X8_165 (c_X8_mayNow l h0 mi a1 a2 x9 q13 hq13) (ci := 8) rfl (lModel_is h0) rfl hl.1 rfl (Nat.le_of_ble_eq_true rfl) ⟨rfl, rfl, Nat.le_of_ble_eq_true rfl, Nat.le_of_ble_eq_true rfl⟩ dX8_take_68 (fun H locs hw => ?_)
        refine lv_if_eq (tgt := 83) hx hb dX8_take_71 (by decide) (fun c14 => ?_) (fun c14 => ?_)
        · have hf := nc_ifp hf c14
          exact hk10 hf _ _ _ hw (lv_sub hl [1] rfl)
        · have hf := nc_ifn hf c14
          refine lv_aload_n hx hb dX8_take_74 rfl (lv_at hl 1 rfl) ?_
          refine lv_iload_n hx hb dX8_take_75 rfl (lv_at hl 2 rfl) ?_
          refine lv_iload_n hx hb dX8_take_76 rfl (lv_at hl 3 rfl) ?_
          obtain ⟨q15, hq15, hf⟩ := nc_bi hf
          refine nc_callVi cx hw lk_X8_175 (c_X8_hasRoom l h0 mi a1 a2 q15 hq15) (ci := 8) rfl (lModel_is h0) rfl hl.1 rfl (Nat.le_of_ble_eq_true rfl) ⟨rfl, rfl, Nat.le_of_ble_eq_true rfl, Nat.le_of_ble_eq_true rfl⟩ dX8_take_77 (fun H locs hw => ?_)
          refine lv_if_ne (tgt := 90) hx hb dX8_take_80 (by decide) (fun c16 => ?_) (fun c16 => ?_)
          · have hf := nc_ifn hf c16
            refine lv_aload_n hx hb dX8_take_90 rfl (lv_at hl 1 rfl) ?_
            refine gr_X8_28 cx hw (lModel_is h0) (lModel_person h0) ((lModel_person_L h0)).1 dX8_take_91 ?_
            refine lv_iload_n hx hb dX8_take_94 rfl (lv_at hl 2 rfl) ?_
            refine nc_ald cx hw (by decide) ((lModel_person_L h0)).1 ij7 ej7 (((lModel_person_L h0)).2 j7 lj7).1 (((lModel_person_L h0)).2 j7 lj7).2 dX8_take_95 ?_
            refine lv_bipush (v := 6) hx hb dX8_take_96 (by decide) ?_
            refine lv_iload_n hx hb dX8_take_98 rfl (lv_at hl 0 rfl) ?_
            refine nc_ist cx hw (((lModel_person_L h0)).2 j7 lj7).2 (nc_lit (j := 6) rfl (by decide) (by decide)) rfl dX8_take_99 (fun mi17 H locs emi17 hw => ?_)
            have hf := nc_let_at hf emi17
            refine lv_aload_n hx hb dX8_take_100 rfl (lv_at hl 1 rfl) ?_
            refine gr_X8_31 cx hw (lModel_is h0) (lModel_thing h0) ((lModel_thing_L h0)).1 dX8_take_101 ?_
            refine lv_iload_n hx hb dX8_take_104 rfl (lv_at hl 3 rfl) ?_
            refine nc_ald cx hw (by decide) ((lModel_thing_L h0)).1 ij8 ej8 (((lModel_thing_L h0)).2 j8 lj8).1 (((lModel_thing_L h0)).2 j8 lj8).2 dX8_take_105 ?_
            refine lv_bipush (v := 7) hx hb dX8_take_106 (by decide) ?_
            refine lv_bipush (v := 10) hx hb dX8_take_108 (by decide) ?_
            refine lv_iload_n hx hb dX8_take_110 rfl (lv_at hl 2 rfl) ?_
            refine lv_iadd hx hb dX8_take_111 ?_
            refine nc_ist cx hw (((lModel_thing_L h0)).2 j8 lj8).2 (nc_lit (j := 7) rfl (by decide) (by decide)) rfl dX8_take_112 (fun mi18 H locs emi18 hw => ?_)
            have hf := nc_let_at hf emi18
            refine lv_aload_n hx hb dX8_take_113 rfl (lv_at hl 1 rfl) ?_
            refine gr_X8_31 cx hw (lModel_is h0) (lModel_thing h0) ((lModel_thing_L h0)).1 dX8_take_114 ?_
            refine lv_iload_n hx hb dX8_take_117 rfl (lv_at hl 3 rfl) ?_
            refine nc_ald cx hw (by decide) ((lModel_thing_L h0)).1 ij8 ej8 (((lModel_thing_L h0)).2 j8 lj8).1 (((lModel_thing_L h0)).2 j8 lj8).2 dX8_take_118 ?_
            refine lv_bipush (v := 8) hx hb dX8_take_119 (by decide) ?_
            refine lv_iconst (v := 0) hx hb dX8_take_121 (by decide) ?_
            refine nc_ist cx hw (((lModel_thing_L h0)).2 j8 lj8).2 (nc_lit (j := 8) rfl (by decide) (by decide)) rfl dX8_take_122 (fun mi19 H locs emi19 hw => ?_)
            have hf := nc_let_at hf emi19
            refine lv_iload_n hx hb dX8_take_123 rfl (lv_at hl 0 rfl) ?_
            exact nc_rpm hret hf rfl hw dX8_take_124
          · have hf := nc_ifp hf c16
            exact hk10 hf _ _ _ hw (lv_sub hl [1] rfl)
    · have hf := nc_ifp hf c6
      exact hk2 hf _ _ _ hw (lv_sub hl [0] rfl)
abbrev rm_X8_go : Room := { frames := 3, cells := 0, slots := 0, locals := 71 }
set_option maxRecDepth 100000 in
set_option maxHeartbeats 4000000 in
theorem c_X8_go (l : Launch) {G : nc_G} {K : nc_K} {o : Nat} (h0 : nc_LModel G K o) (mi : nc_Mem) (a1 a2 : Int32) (res : nc_Mem × Int32) (hf : f_X8_go mi o a1 a2 = some res) : nc_M l yX8_go cX8_go 6 (some .int) rm_X8_go 0 0 G K K [.ref o, .int a1, .int a2] mi res.1 (some (.int res.2)) := by
  refine nc_meet_i (by decide) (Nat.le_of_ble_eq_true rfl) ?_
  intro p e s m args below meth c Q H locs ls cx hret hw hl
  have cx : nc_C p s m args c cX8_go 6 RX8 G := cx
  have hl : lv_has ls 6 [(0, .ref o), (1, .int a1), (2, .int a2)] := hl
  have hx := cx.1
  have hb := cx.2.1
  unfold f_X8_go at hf
  refine lv_aload_n hx hb dX8_go_0 rfl (lv_at hl 0 rfl) ?_
  refine lv_iload_n hx hb dX8_go_1 rfl (lv_at hl 1 rfl) ?_
  obtain ⟨q1, hq1, hf⟩ := nc_bi hf
  refine nc_callVi cx hw lk_X8_108 (c_X8_isPerson l h0 mi a1 q1 hq1) (ci := 8) rfl (lModel_is h0) rfl hl.1 rfl (Nat.le_of_ble_eq_true rfl) ⟨rfl, rfl, Nat.le_of_ble_eq_true rfl, Nat.le_of_ble_eq_true rfl⟩ dX8_go_2 (fun H locs hw => ?_)
  obtain ⟨k2, ek2, hf⟩ := nc_jn_of hf
  have hk2 : k2 = some res → ∀ (H : Heap) (locs : List Loc) (ls : Array Slot), nc_W G K mi H locs → lv_has ls 6 [(0, .ref o)] → W p l e rm_X8_go s m args below meth c H locs 0 0 Q (F0 m 16 ls []) := by
    intro hf H locs ls hw hl
    have hf := (ek2).symm.trans hf
    refine lv_aload_n hx hb dX8_go_16 rfl (lv_at hl 0 rfl) ?_
    refine lv_iconst (v := (-1)) hx hb dX8_go_17 (by decide) ?_
    obtain ⟨q3, hq3, hf⟩ := nc_bi hf
    refine nc_callVi cx hw lk_X8_71 (c_X8_refuse l h0 mi (-1) q3 hq3) (ci := 8) rfl (lModel_is h0) rfl hl.1 rfl (Nat.le_of_ble_eq_true rfl) ⟨rfl, rfl, Nat.le_of_ble_eq_true rfl, Nat.le_of_ble_eq_true rfl⟩ dX8_go_18 (fun H locs hw => ?_)
    exact nc_rpm hret hf rfl hw dX8_go_21
  refine lv_if_eq (tgt := 16) hx hb dX8_go_5 (by decide) (fun c4 => ?_) (fun c4 => ?_)
  · have hf := nc_ifp hf c4
    exact hk2 hf _ _ _ hw (lv_sub hl [0] rfl)
  · have hf := nc_ifn hf c4
    refine lv_aload_n hx hb dX8_go_8 rfl (lv_at hl 0 rfl) ?_
    refine lv_iload_n hx hb dX8_go_9 rfl (lv_at hl 2 rfl) ?_
    obtain ⟨q5, hq5, hf⟩ := nc_bi hf
    refine nc_callVi cx hw lk_X8_105 (c_X8_isPlace l h0 mi a2 q5 hq5) (ci := 8) rfl (lModel_is h0) rfl hl.1 rfl (Nat.le_of_ble_eq_true rfl) ⟨rfl, rfl, Nat.le_of_ble_eq_true rfl, Nat.le_of_ble_eq_true rfl⟩ dX8_go_10 (fun H locs hw => ?_)
    refine lv_if_ne (tgt := 22) hx hb dX8_go_13 (by decide) (fun c6 => ?_) (fun c6 => ?_)
    · have hf := nc_ifn hf c6
      refine lv_aload_n hx hb dX8_go_22 rfl (lv_at hl 0 rfl) ?_
      obtain ⟨q7, hq7, hf⟩ := nc_bi hf
      refine nc_callVv cx hw lk_X8_139 (c_X8_findFar l h0 mi  q7 hq7) (ci := 8) rfl (lModel_is h0) rfl hl.1 rfl (Nat.le_of_ble_eq_true rfl) ⟨rfl, rfl, Nat.le_of_ble_eq_true rfl, Nat.le_of_ble_eq_true rfl⟩ dX8_go_23 (fun H locs hw => ?_)
      refine lv_aload_n hx hb dX8_go_26 rfl (lv_at hl 0 rfl) ?_
      refine gr_X8_37 cx hw (lModel_is h0) (lModel_far h0) ((lModel_far_L h0)).1 dX8_go_27 ?_
      refine lv_aload_n hx hb dX8_go_30 rfl (lv_at hl 0 rfl) ?_
      refine gr_X8_28 cx hw (lModel_is h0) (lModel_person h0) ((lModel_person_L h0)).1 dX8_go_31 ?_
      refine lv_iload_n hx hb dX8_go_34 rfl (lv_at hl 1 rfl) ?_
      obtain ⟨j8, ej8, ij8, lj8, hf⟩ := nc_ix hf
      refine nc_ald cx hw (by decide) ((lModel_person_L h0)).1 ij8 ej8 (((lModel_person_L h0)).2 j8 lj8).1 (((lModel_person_L h0)).2 j8 lj8).2 dX8_go_35 ?_
      refine lv_iconst (v := 5) hx hb dX8_go_36 (by decide) ?_
      refine nc_ild cx hw (((lModel_person_L h0)).2 j8 lj8).2 (nc_lit (j := 5) rfl (by decide) (by decide)) rfl dX8_go_37 ?_
      obtain ⟨j9, ej9, ij9, lj9, hf⟩ := nc_ix hf
      refine nc_ald cx hw (by decide) ((lModel_far_L h0)).1 ij9 ej9 (((lModel_far_L h0)).2 j9 lj9).1 (((lModel_far_L h0)).2 j9 lj9).2 dX8_go_38 ?_
      refine lv_iload_n hx hb dX8_go_39 rfl (lv_at hl 2 rfl) ?_
      obtain ⟨j10, ej10, ij10, lj10, hf⟩ := nc_ix hf
      refine nc_ild cx hw (((lModel_far_L h0)).2 j9 lj9).2 ij10 ej10 dX8_go_40 ?_
      refine lv_topi (fun x11 ex11 => ?_)
      have hf := nc_let_at hf ex11
      refine lv_istore_n (lv' := [(3, .int x11), (0, .ref o), (1, .int a1), (2, .int a2)]) hx hb dX8_go_41 rfl hl (by decide) rfl (fun ls hl => ?_)
      refine lv_iload_n hx hb dX8_go_42 rfl (lv_at hl 0 rfl) ?_
      refine nc_ldc (v := 100000) cx kc_X8_138 dX8_go_43 ?_
      refine lv_icmp_ge (tgt := 52) hx hb dX8_go_45 (by decide) (fun c12 => ?_) (fun c12 => ?_)
      · have hf := nc_ifp hf c12
        refine lv_iconst (v := 0) hx hb dX8_go_52 (by decide) ?_
        refine lv_istore (lv' := [(4, .int 0), (3, .int x11), (0, .ref o), (1, .int a1), (2, .int a2)]) hx hb dX8_go_53 hl (by decide) rfl (fun ls hl => ?_)
        refine lv_iconst (v := 0) hx hb dX8_go_55 (by decide) ?_
        refine lv_istore (lv' := [(5, .int 0), (4, .int 0), (3, .int x11), (0, .ref o), (1, .int a1), (2, .int a2)]) hx hb dX8_go_56 hl (by decide) rfl (fun ls hl => ?_)
        obtain ⟨k13, ek13, hf⟩ := nc_jn_of hf
        have hk13 : ∀ (x14 : Int32), k13 x14 = some res → ∀ (H : Heap) (locs : List Loc) (ls : Array Slot), nc_W G K q7 H locs → lv_has ls 6 [(0, .ref o), (1, .int a1), (2, .int a2), (3, .int x11), (4, .int x14)] → W p l e rm_X8_go s m args below meth c H locs 0 0 Q (F0 m 119 ls []) := by
          intro x14 hf H locs ls hw hl
          have hf := ((congrFun ek13 x14)).symm.trans hf
          refine lv_iload hx hb dX8_go_119 (lv_at hl 4 rfl) ?_
          refine lv_if_ne (tgt := 131) hx hb dX8_go_121 (by decide) (fun c15 => ?_) (fun c15 => ?_)
          · have hf := nc_ifn hf c15
            refine lv_aload_n hx hb dX8_go_131 rfl (lv_at hl 0 rfl) ?_
            refine gr_X8_28 cx hw (lModel_is h0) (lModel_person h0) ((lModel_person_L h0)).1 dX8_go_132 ?_
            refine lv_iload_n hx hb dX8_go_135 rfl (lv_at hl 1 rfl) ?_
            refine nc_ald cx hw (by decide) ((lModel_person_L h0)).1 ij8 ej8 (((lModel_person_L h0)).2 j8 lj8).1 (((lModel_person_L h0)).2 j8 lj8).2 dX8_go_136 ?_
            refine lv_iconst (v := 5) hx hb dX8_go_137 (by decide) ?_
            refine lv_iload_n hx hb dX8_go_138 rfl (lv_at hl 2 rfl) ?_
            refine nc_ist cx hw (((lModel_person_L h0)).2 j8 lj8).2 (nc_lit (j := 5) rfl (by decide) (by decide)) rfl dX8_go_139 (fun mi16 H locs emi16 hw => ?_)
            have hf := nc_let_at hf emi16
            refine lv_aload_n hx hb dX8_go_140 rfl (lv_at hl 0 rfl) ?_
            refine gr_X8_28 cx hw (lModel_is h0) (lModel_person h0) ((lModel_person_L h0)).1 dX8_go_141 ?_
            refine lv_iload_n hx hb dX8_go_144 rfl (lv_at hl 1 rfl) ?_
            refine nc_ald cx hw (by decide) ((lModel_person_L h0)).1 ij8 ej8 (((lModel_person_L h0)).2 j8 lj8).1 (((lModel_person_L h0)).2 j8 lj8).2 dX8_go_145 ?_
            refine lv_bipush (v := 6) hx hb dX8_go_146 (by decide) ?_
            refine lv_dup2_11 hx hb dX8_go_148 rfl rfl ?_
            refine nc_ild cx hw (((lModel_person_L h0)).2 j8 lj8).2 (nc_lit (j := 6) rfl (by decide) (by decide)) rfl dX8_go_149 ?_
            refine lv_iload_n hx hb dX8_go_150 rfl (lv_at hl 3 rfl) ?_
            refine lv_iadd hx hb dX8_go_151 ?_
            refine nc_ist cx hw (((lModel_person_L h0)).2 j8 lj8).2 (nc_lit (j := 6) rfl (by decide) (by decide)) rfl dX8_go_152 (fun mi17 H locs emi17 hw => ?_)
            have hf := nc_let_at hf emi17
            refine lv_aload_n hx hb dX8_go_153 rfl (lv_at hl 0 rfl) ?_
            refine gr_X8_28 cx hw (lModel_is h0) (lModel_person h0) ((lModel_person_L h0)).1 dX8_go_154 ?_
            refine lv_iload_n hx hb dX8_go_157 rfl (lv_at hl 1 rfl) ?_
            refine nc_ald cx hw (by decide) ((lModel_person_L h0)).1 ij8 ej8 (((lModel_person_L h0)).2 j8 lj8).1 (((lModel_person_L h0)).2 j8 lj8).2 dX8_go_158 ?_
            refine lv_bipush (v := 6) hx hb dX8_go_159 (by decide) ?_
            refine nc_ild cx hw (((lModel_person_L h0)).2 j8 lj8).2 (nc_lit (j := 6) rfl (by decide) (by decide)) rfl dX8_go_161 ?_
            exact nc_rpm hret hf rfl hw dX8_go_162
          · have hf := nc_ifp hf c15
            refine lv_aload_n hx hb dX8_go_124 rfl (lv_at hl 0 rfl) ?_
            refine lv_bipush (v := (-3)) hx hb dX8_go_125 (by decide) ?_
            obtain ⟨q18, hq18, hf⟩ := nc_bi hf
            refine nc_callVi cx hw lk_X8_71 (c_X8_refuse l h0 q7 (-3) q18 hq18) (ci := 8) rfl (lModel_is h0) rfl hl.1 rfl (Nat.le_of_ble_eq_true rfl) ⟨rfl, rfl, Nat.le_of_ble_eq_true rfl, Nat.le_of_ble_eq_true rfl⟩ dX8_go_127 (fun H locs hw => ?_)
            exact nc_rpm hret hf rfl hw dX8_go_130
        refine nc_loop_w (P := fun κ : Int32 → Int32 → Option (nc_Mem × Int32) => ∀ (x19 : Int32) (x20 : Int32), κ x19 x20 = some res → ∀ (H : Heap) (locs : List Loc) (ls : Array Slot), nc_W G K q7 H locs → lv_has ls 6 [(0, .ref o), (1, .int a1), (2, .int a2), (3, .int x11), (4, .int x19), (5, .int x20)] → W p l e rm_X8_go s m args below meth c H locs 0 0 Q (F0 m 58 ls [])) ?_ ?_ 200 _ _ hf _ _ _ hw (lv_sub hl [3, 4, 5, 2, 1, 0] rfl)
        · intro x19 x20 hf; exact absurd hf (by intro q; cases q)
        · intro rc21 ihrc21 x19 x20 hf H locs ls hw hl
          unfold B_X8_go_58 at hf
          refine lv_iload hx hb dX8_go_58 (lv_at hl 5 rfl) ?_
          refine lv_aload_n hx hb dX8_go_60 rfl (lv_at hl 0 rfl) ?_
          refine gi_X8_68 cx hw (lModel_is h0) dX8_go_61 ?_
          refine lv_icmp_ge (tgt := 119) hx hb dX8_go_64 (by decide) (fun c22 => ?_) (fun c22 => ?_)
          · have hf := nc_ifp hf c22
            exact hk13 _ hf _ _ _ hw (lv_sub hl [0, 1, 2, 3, 4] rfl)
          · have hf := nc_ifn hf c22
            refine lv_iload hx hb dX8_go_67 (lv_at hl 4 rfl) ?_
            refine lv_aload_n hx hb dX8_go_69 rfl (lv_at hl 0 rfl) ?_
            refine gr_X8_31 cx hw (lModel_is h0) (lModel_thing h0) ((lModel_thing_L h0)).1 dX8_go_70 ?_
            refine lv_iload hx hb dX8_go_73 (lv_at hl 5 rfl) ?_
            obtain ⟨j23, ej23, ij23, lj23, hf⟩ := nc_ix hf
            refine nc_ald cx hw (by decide) ((lModel_thing_L h0)).1 ij23 ej23 (((lModel_thing_L h0)).2 j23 lj23).1 (((lModel_thing_L h0)).2 j23 lj23).2 dX8_go_75 ?_
            refine lv_bipush (v := 7) hx hb dX8_go_76 (by decide) ?_
            refine nc_ild cx hw (((lModel_thing_L h0)).2 j23 lj23).2 (nc_lit (j := 7) rfl (by decide) (by decide)) rfl dX8_go_78 ?_
            refine lv_bipush (v := 10) hx hb dX8_go_79 (by decide) ?_
            refine lv_iload_n hx hb dX8_go_81 rfl (lv_at hl 1 rfl) ?_
            refine lv_iadd hx hb dX8_go_82 ?_
            refine lv_icmp_ne (tgt := 105) hx hb dX8_go_83 (by decide) (fun c24 => ?_) (fun c24 => ?_)
            · have hf := nc_ifn hf c24
              refine lv_iconst (v := 1) hx hb dX8_go_105 (by decide) ?_
              refine lv_goto (tgt := 110) hx hb dX8_go_106 (by decide) ?_
              refine lv_iand hx hb dX8_go_110 ?_
              refine lv_topi (fun x25 ex25 => ?_)
              have hf := nc_let_at hf ex25
              refine lv_istore (lv' := [(4, .int x25), (0, .ref o), (1, .int a1), (2, .int a2), (3, .int x11), (5, .int x20)]) hx hb dX8_go_111 hl (by decide) rfl (fun ls hl => ?_)
              obtain ⟨x26, ex26⟩ : ∃ y : Int32, y = x20 + 1 := ⟨_, rfl⟩
              have hf := nc_let_at hf ex26
              refine lv_iinc (v := x26) (lv' := [(5, .int x26), (4, .int x25), (0, .ref o), (1, .int a1), (2, .int a2), (3, .int x11)]) hx hb dX8_go_113 hl (k := 5) rfl (by rw [ex26]; rfl) (by decide) rfl (fun ls hl => ?_)
              refine lv_goto (tgt := 58) hx hb dX8_go_116 (by decide) ?_
              exact ihrc21 _ _ hf _ _ _ hw (lv_sub hl [2, 3, 4, 5, 1, 0] rfl)
            · have hf := nc_ifp hf c24
              refine lv_aload_n hx hb dX8_go_86 rfl (lv_at hl 0 rfl) ?_
              refine lv_iload_n hx hb dX8_go_87 rfl (lv_at hl 1 rfl) ?_
              refine lv_iload hx hb dX8_go_88 (lv_at hl 5 rfl) ?_
              refine lv_aload_n hx hb dX8_go_90 rfl (lv_at hl 0 rfl) ?_
              refine gr_X8_28 cx hw (lModel_is h0) (lModel_person h0) ((lModel_person_L h0)).1 dX8_go_91 ?_
              refine lv_iload_n hx hb dX8_go_94 rfl (lv_at hl 1 rfl) ?_
              refine nc_ald cx hw (by decide) ((lModel_person_L h0)).1 ij8 ej8 (((lModel_person_L h0)).2 j8 lj8).1 (((lModel_person_L h0)).2 j8 lj8).2 dX8_go_95 ?_
              refine lv_bipush (v := 6) hx hb dX8_go_96 (by decide) ?_
              refine nc_ild cx hw (((lModel_person_L h0)).2 j8 lj8).2 (nc_lit (j := 6) rfl (by decide) (by decide)) rfl dX8_go_98 ?_
              obtain ⟨q27, hq27, hf⟩ := nc_bi hf
              refine nc_callVi cx hw lk_X8_165 (c_X8_mayNow l h0 q7 a1 x20 (q7 (o + 12 + 1 + j8) 6) q27 hq27) (ci := 8) rfl (lModel_is h0) rfl hl.1 rfl (Nat.le_of_ble_eq_true rfl) ⟨rfl, rfl, Nat.le_of_ble_eq_true rfl, Nat.le_of_ble_eq_true rfl⟩ dX8_go_99 (fun H locs hw => ?_)
              refine lv_if_eq (tgt := 109) hx hb dX8_go_102 (by decide) (fun c28 => ?_) (fun c28 => ?_)
              · have hf := nc_ifp hf c28
                refine lv_iconst (v := 0) hx hb dX8_go_109 (by decide) ?_
                refine lv_iand hx hb dX8_go_110 ?_
                refine lv_topi (fun x29 ex29 => ?_)
                have hf := nc_let_at hf ex29
                refine lv_istore (lv' := [(4, .int x29), (0, .ref o), (1, .int a1), (2, .int a2), (3, .int x11), (5, .int x20)]) hx hb dX8_go_111 hl (by decide) rfl (fun ls hl => ?_)
                obtain ⟨x30, ex30⟩ : ∃ y : Int32, y = x20 + 1 := ⟨_, rfl⟩
                have hf := nc_let_at hf ex30
                refine lv_iinc (v := x30) (lv' := [(5, .int x30), (4, .int x29), (0, .ref o), (1, .int a1), (2, .int a2), (3, .int x11)]) hx hb dX8_go_113 hl (k := 5) rfl (by rw [ex30]; rfl) (by decide) rfl (fun ls hl => ?_)
                refine lv_goto (tgt := 58) hx hb dX8_go_116 (by decide) ?_
                exact ihrc21 _ _ hf _ _ _ hw (lv_sub hl [2, 3, 4, 5, 1, 0] rfl)
              · have hf := nc_ifn hf c28
                refine lv_iconst (v := 1) hx hb dX8_go_105 (by decide) ?_
                refine lv_goto (tgt := 110) hx hb dX8_go_106 (by decide) ?_
                refine lv_iand hx hb dX8_go_110 ?_
                refine lv_topi (fun x31 ex31 => ?_)
                have hf := nc_let_at hf ex31
                refine lv_istore (lv' := [(4, .int x31), (0, .ref o), (1, .int a1), (2, .int a2), (3, .int x11), (5, .int x20)]) hx hb dX8_go_111 hl (by decide) rfl (fun ls hl => ?_)
                obtain ⟨x32, ex32⟩ : ∃ y : Int32, y = x20 + 1 := ⟨_, rfl⟩
                have hf := nc_let_at hf ex32
                refine lv_iinc (v := x32) (lv' := [(5, .int x32), (4, .int x31), (0, .ref o), (1, .int a1), (2, .int a2), (3, .int x11)]) hx hb dX8_go_113 hl (k := 5) rfl (by rw [ex32]; rfl) (by decide) rfl (fun ls hl => ?_)
                refine lv_goto (tgt := 58) hx hb dX8_go_116 (by decide) ?_
                exact ihrc21 _ _ hf _ _ _ hw (lv_sub hl [2, 3, 4, 5, 1, 0] rfl)
      · have hf := nc_ifn hf c12
        refine lv_iconst (v := 1) hx hb dX8_go_48 (by decide) ?_
        refine lv_goto (tgt := 53) hx hb dX8_go_49 (by decide) ?_
        refine lv_istore (lv' := [(4, .int 1), (3, .int x11), (0, .ref o), (1, .int a1), (2, .int a2)]) hx hb dX8_go_53 hl (by decide) rfl (fun ls hl => ?_)
        refine lv_iconst (v := 0) hx hb dX8_go_55 (by decide) ?_
        refine lv_istore (lv' := [(5, .int 0), (4, .int 1), (3, .int x11), (0, .ref o), (1, .int a1), (2, .int a2)]) hx hb dX8_go_56 hl (by decide) rfl (fun ls hl => ?_)
        obtain ⟨k33, ek33, hf⟩ := nc_jn_of hf
        have hk33 : ∀ (x34 : Int32), k33 x34 = some res → ∀ (H : Heap) (locs : List Loc) (ls : Array Slot), nc_W G K q7 H locs → lv_has ls 6 [(0, .ref o), (1, .int a1), (2, .int a2), (3, .int x11), (4, .int x34)] → W p l e rm_X8_go s m args below meth c H locs 0 0 Q (F0 m 119 ls []) := by
          intro x34 hf H locs ls hw hl
          have hf := ((congrFun ek33 x34)).symm.trans hf
          refine lv_iload hx hb dX8_go_119 (lv_at hl 4 rfl) ?_
          refine lv_if_ne (tgt := 131) hx hb dX8_go_121 (by decide) (fun c35 => ?_) (fun c35 => ?_)
          · have hf := nc_ifn hf c35
            refine lv_aload_n hx hb dX8_go_131 rfl (lv_at hl 0 rfl) ?_
            refine gr_X8_28 cx hw (lModel_is h0) (lModel_person h0) ((lModel_person_L h0)).1 dX8_go_132 ?_
            refine lv_iload_n hx hb dX8_go_135 rfl (lv_at hl 1 rfl) ?_
            refine nc_ald cx hw (by decide) ((lModel_person_L h0)).1 ij8 ej8 (((lModel_person_L h0)).2 j8 lj8).1 (((lModel_person_L h0)).2 j8 lj8).2 dX8_go_136 ?_
            refine lv_iconst (v := 5) hx hb dX8_go_137 (by decide) ?_
            refine lv_iload_n hx hb dX8_go_138 rfl (lv_at hl 2 rfl) ?_
            refine nc_ist cx hw (((lModel_person_L h0)).2 j8 lj8).2 (nc_lit (j := 5) rfl (by decide) (by decide)) rfl dX8_go_139 (fun mi36 H locs emi36 hw => ?_)
            have hf := nc_let_at hf emi36
            refine lv_aload_n hx hb dX8_go_140 rfl (lv_at hl 0 rfl) ?_
            refine gr_X8_28 cx hw (lModel_is h0) (lModel_person h0) ((lModel_person_L h0)).1 dX8_go_141 ?_
            refine lv_iload_n hx hb dX8_go_144 rfl (lv_at hl 1 rfl) ?_
            refine nc_ald cx hw (by decide) ((lModel_person_L h0)).1 ij8 ej8 (((lModel_person_L h0)).2 j8 lj8).1 (((lModel_person_L h0)).2 j8 lj8).2 dX8_go_145 ?_
            refine lv_bipush (v := 6) hx hb dX8_go_146 (by decide) ?_
            refine lv_dup2_11 hx hb dX8_go_148 rfl rfl ?_
            refine nc_ild cx hw (((lModel_person_L h0)).2 j8 lj8).2 (nc_lit (j := 6) rfl (by decide) (by decide)) rfl dX8_go_149 ?_
            refine lv_iload_n hx hb dX8_go_150 rfl (lv_at hl 3 rfl) ?_
            refine lv_iadd hx hb dX8_go_151 ?_
            refine nc_ist cx hw (((lModel_person_L h0)).2 j8 lj8).2 (nc_lit (j := 6) rfl (by decide) (by decide)) rfl dX8_go_152 (fun mi37 H locs emi37 hw => ?_)
            have hf := nc_let_at hf emi37
            refine lv_aload_n hx hb dX8_go_153 rfl (lv_at hl 0 rfl) ?_
            refine gr_X8_28 cx hw (lModel_is h0) (lModel_person h0) ((lModel_person_L h0)).1 dX8_go_154 ?_
            refine lv_iload_n hx hb dX8_go_157 rfl (lv_at hl 1 rfl) ?_
            refine nc_ald cx hw (by decide) ((lModel_person_L h0)).1 ij8 ej8 (((lModel_person_L h0)).2 j8 lj8).1 (((lModel_person_L h0)).2 j8 lj8).2 dX8_go_158 ?_
            refine lv_bipush (v := 6) hx hb dX8_go_159 (by decide) ?_
            refine nc_ild cx hw (((lModel_person_L h0)).2 j8 lj8).2 (nc_lit (j := 6) rfl (by decide) (by decide)) rfl dX8_go_161 ?_
            exact nc_rpm hret hf rfl hw dX8_go_162
          · have hf := nc_ifp hf c35
            refine lv_aload_n hx hb dX8_go_124 rfl (lv_at hl 0 rfl) ?_
            refine lv_bipush (v := (-3)) hx hb dX8_go_125 (by decide) ?_
            obtain ⟨q38, hq38, hf⟩ := nc_bi hf
            refine nc_callVi cx hw lk_X8_71 (c_X8_refuse l h0 q7 (-3) q38 hq38) (ci := 8) rfl (lModel_is h0) rfl hl.1 rfl (Nat.le_of_ble_eq_true rfl) ⟨rfl, rfl, Nat.le_of_ble_eq_true rfl, Nat.le_of_ble_eq_true rfl⟩ dX8_go_127 (fun H locs hw => ?_)
            exact nc_rpm hret hf rfl hw dX8_go_130
        refine nc_loop_w (P := fun κ : Int32 → Int32 → Option (nc_Mem × Int32) => ∀ (x39 : Int32) (x40 : Int32), κ x39 x40 = some res → ∀ (H : Heap) (locs : List Loc) (ls : Array Slot), nc_W G K q7 H locs → lv_has ls 6 [(0, .ref o), (1, .int a1), (2, .int a2), (3, .int x11), (4, .int x39), (5, .int x40)] → W p l e rm_X8_go s m args below meth c H locs 0 0 Q (F0 m 58 ls [])) ?_ ?_ 200 _ _ hf _ _ _ hw (lv_sub hl [3, 4, 5, 2, 1, 0] rfl)
        · intro x39 x40 hf; exact absurd hf (by intro q; cases q)
        · intro rc41 ihrc41 x39 x40 hf H locs ls hw hl
          unfold B_X8_go_58_52 at hf
          refine lv_iload hx hb dX8_go_58 (lv_at hl 5 rfl) ?_
          refine lv_aload_n hx hb dX8_go_60 rfl (lv_at hl 0 rfl) ?_
          refine gi_X8_68 cx hw (lModel_is h0) dX8_go_61 ?_
          refine lv_icmp_ge (tgt := 119) hx hb dX8_go_64 (by decide) (fun c42 => ?_) (fun c42 => ?_)
          · have hf := nc_ifp hf c42
            exact hk33 _ hf _ _ _ hw (lv_sub hl [0, 1, 2, 3, 4] rfl)
          · have hf := nc_ifn hf c42
            refine lv_iload hx hb dX8_go_67 (lv_at hl 4 rfl) ?_
            refine lv_aload_n hx hb dX8_go_69 rfl (lv_at hl 0 rfl) ?_
            refine gr_X8_31 cx hw (lModel_is h0) (lModel_thing h0) ((lModel_thing_L h0)).1 dX8_go_70 ?_
            refine lv_iload hx hb dX8_go_73 (lv_at hl 5 rfl) ?_
            obtain ⟨j43, ej43, ij43, lj43, hf⟩ := nc_ix hf
            refine nc_ald cx hw (by decide) ((lModel_thing_L h0)).1 ij43 ej43 (((lModel_thing_L h0)).2 j43 lj43).1 (((lModel_thing_L h0)).2 j43 lj43).2 dX8_go_75 ?_
            refine lv_bipush (v := 7) hx hb dX8_go_76 (by decide) ?_
            refine nc_ild cx hw (((lModel_thing_L h0)).2 j43 lj43).2 (nc_lit (j := 7) rfl (by decide) (by decide)) rfl dX8_go_78 ?_
            refine lv_bipush (v := 10) hx hb dX8_go_79 (by decide) ?_
            refine lv_iload_n hx hb dX8_go_81 rfl (lv_at hl 1 rfl) ?_
            refine lv_iadd hx hb dX8_go_82 ?_
            refine lv_icmp_ne (tgt := 105) hx hb dX8_go_83 (by decide) (fun c44 => ?_) (fun c44 => ?_)
            · have hf := nc_ifn hf c44
              refine lv_iconst (v := 1) hx hb dX8_go_105 (by decide) ?_
              refine lv_goto (tgt := 110) hx hb dX8_go_106 (by decide) ?_
              refine lv_iand hx hb dX8_go_110 ?_
              refine lv_topi (fun x45 ex45 => ?_)
              have hf := nc_let_at hf ex45
              refine lv_istore (lv' := [(4, .int x45), (0, .ref o), (1, .int a1), (2, .int a2), (3, .int x11), (5, .int x40)]) hx hb dX8_go_111 hl (by decide) rfl (fun ls hl => ?_)
              obtain ⟨x46, ex46⟩ : ∃ y : Int32, y = x40 + 1 := ⟨_, rfl⟩
              have hf := nc_let_at hf ex46
              refine lv_iinc (v := x46) (lv' := [(5, .int x46), (4, .int x45), (0, .ref o), (1, .int a1), (2, .int a2), (3, .int x11)]) hx hb dX8_go_113 hl (k := 5) rfl (by rw [ex46]; rfl) (by decide) rfl (fun ls hl => ?_)
              refine lv_goto (tgt := 58) hx hb dX8_go_116 (by decide) ?_
              exact ihrc41 _ _ hf _ _ _ hw (lv_sub hl [2, 3, 4, 5, 1, 0] rfl)
            · have hf := nc_ifp hf c44
              refine lv_aload_n hx hb dX8_go_86 rfl (lv_at hl 0 rfl) ?_
              refine lv_iload_n hx hb dX8_go_87 rfl (lv_at hl 1 rfl) ?_
              refine lv_iload hx hb dX8_go_88 (lv_at hl 5 rfl) ?_
              refine lv_aload_n hx hb dX8_go_90 rfl (lv_at hl 0 rfl) ?_
              refine gr_X8_28 cx hw (lModel_is h0) (lModel_person h0) ((lModel_person_L h0)).1 dX8_go_91 ?_
              refine lv_iload_n hx hb dX8_go_94 rfl (lv_at hl 1 rfl) ?_
              refine nc_ald cx hw (by decide) ((lModel_person_L h0)).1 ij8 ej8 (((lModel_person_L h0)).2 j8 lj8).1 (((lModel_person_L h0)).2 j8 lj8).2 dX8_go_95 ?_
              refine lv_bipush (v := 6) hx hb dX8_go_96 (by decide) ?_
              refine nc_ild cx hw (((lModel_person_L h0)).2 j8 lj8).2 (nc_lit (j := 6) rfl (by decide) (by decide)) rfl dX8_go_98 ?_
              obtain ⟨q47, hq47, hf⟩ := nc_bi hf
              refine nc_callVi cx hw lk_X8_165 (c_X8_mayNow l h0 q7 a1 x40 (q7 (o + 12 + 1 + j8) 6) q47 hq47) (ci := 8) rfl (lModel_is h0) rfl hl.1 rfl (Nat.le_of_ble_eq_true rfl) ⟨rfl, rfl, Nat.le_of_ble_eq_true rfl, Nat.le_of_ble_eq_true rfl⟩ dX8_go_99 (fun H locs hw => ?_)
              refine lv_if_eq (tgt := 109) hx hb dX8_go_102 (by decide) (fun c48 => ?_) (fun c48 => ?_)
              · have hf := nc_ifp hf c48
                refine lv_iconst (v := 0) hx hb dX8_go_109 (by decide) ?_
                refine lv_iand hx hb dX8_go_110 ?_
                refine lv_topi (fun x49 ex49 => ?_)
                have hf := nc_let_at hf ex49
                refine lv_istore (lv' := [(4, .int x49), (0, .ref o), (1, .int a1), (2, .int a2), (3, .int x11), (5, .int x40)]) hx hb dX8_go_111 hl (by decide) rfl (fun ls hl => ?_)
                obtain ⟨x50, ex50⟩ : ∃ y : Int32, y = x40 + 1 := ⟨_, rfl⟩
                have hf := nc_let_at hf ex50
                refine lv_iinc (v := x50) (lv' := [(5, .int x50), (4, .int x49), (0, .ref o), (1, .int a1), (2, .int a2), (3, .int x11)]) hx hb dX8_go_113 hl (k := 5) rfl (by rw [ex50]; rfl) (by decide) rfl (fun ls hl => ?_)
                refine lv_goto (tgt := 58) hx hb dX8_go_116 (by decide) ?_
                exact ihrc41 _ _ hf _ _ _ hw (lv_sub hl [2, 3, 4, 5, 1, 0] rfl)
              · have hf := nc_ifn hf c48
                refine lv_iconst (v := 1) hx hb dX8_go_105 (by decide) ?_
                refine lv_goto (tgt := 110) hx hb dX8_go_106 (by decide) ?_
                refine lv_iand hx hb dX8_go_110 ?_
                refine lv_topi (fun x51 ex51 => ?_)
                have hf := nc_let_at hf ex51
                refine lv_istore (lv' := [(4, .int x51), (0, .ref o), (1, .int a1), (2, .int a2), (3, .int x11), (5, .int x40)]) hx hb dX8_go_111 hl (by decide) rfl (fun ls hl => ?_)
                obtain ⟨x52, ex52⟩ : ∃ y : Int32, y = x40 + 1 := ⟨_, rfl⟩
                have hf := nc_let_at hf ex52
                refine lv_iinc (v := x52) (lv' := [(5, .int x52), (4, .int x51), (0, .ref o), (1, .int a1), (2, .int a2), (3, .int x11)]) hx hb dX8_go_113 hl (k := 5) rfl (by rw [ex52]; rfl) (by decide) rfl (fun ls hl => ?_)
                refine lv_goto (tgt := 58) hx hb dX8_go_116 (by decide) ?_
                exact ihrc41 _ _ hf _ _ _ hw (lv_sub hl [2, 3, 4, 5, 1, 0] rfl)
    · have hf := nc_ifp hf c6
      exact hk2 hf _ _ _ hw (lv_sub hl [0] rfl)
