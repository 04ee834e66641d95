abbrev rm_X2_traceBack : Room := { frames := 4, cells := 0, slots := 0, locals := 100 }
set_option maxRecDepth 100000 in
set_option maxHeartbeats 4000000 in
theorem c_X2_traceBack (l : Launch) {G : nc_G} {K : nc_K} {o : Nat} (h0 : nc_LNC G K o) (mi : nc_Mem) (a1 : Int32) (res : nc_Mem) (hf : f_X2_traceBack mi o a1 = some res) : nc_M l yX2_traceBack cX2_traceBack 5 none rm_X2_traceBack 0 0 G K K [.ref (o + 55), .int a1] mi res none := by
  refine nc_meet_v (by decide) (Nat.le_of_ble_eq_true rfl) ?_
  intro p e s m args below meth c Q H locs ls cx hret hw hl
  have cx : nc_C p s m args c cX2_traceBack 5 RX2 G := cx
  have hl : lv_has ls 5 [(0, .ref (o + 55)), (1, .int a1)] := hl
  have hx := cx.1
  have hb := cx.2.1
  unfold f_X2_traceBack at hf
  refine lv_aload_n hx hb dX2_traceBack_0 rfl (lv_at hl 0 rfl) ?_
  refine gr_X2_24 cx hw (lNC_mind_L h0) (lNC_m_town h0) (lTown_is (lNC_now_L h0)) dX2_traceBack_1 ?_
  refine gr_X2_75 cx hw (lTown_is (lNC_now_L h0)) (lTown_goods (lNC_now_L h0)) (lTown_goods_L (lNC_now_L h0)) dX2_traceBack_4 ?_
  refine lv_iload_n hx hb dX2_traceBack_7 rfl (lv_at hl 1 rfl) ?_
  obtain ⟨j1, ej1, ij1, lj1, hf⟩ := nc_ix hf
  refine nc_ald cx hw (by decide) (lTown_goods_L (lNC_now_L h0)) ij1 ej1 ((lTown_goods_E (lNC_now_L h0) j1 lj1)).1 (lThing_is ((lTown_goods_E (lNC_now_L h0) j1 lj1)).2) dX2_traceBack_8 ?_
  refine lv_astore_n (lv' := [(2, .ref (o + 1 + 11 + j1)), (0, .ref (o + 55)), (1, .int a1)]) hx hb dX2_traceBack_9 rfl hl (by decide) rfl (fun ls hl => ?_)
  refine lv_aload_n hx hb dX2_traceBack_10 rfl (lv_at hl 0 rfl) ?_
  refine gi_X2_92 cx hw (lThing_is ((lTown_goods_E (lNC_now_L h0) j1 lj1)).2) dX2_traceBack_11 ?_
  refine lv_topi (fun x2 ex2 => ?_)
  have hf := nc_let_at hf ex2
  refine lv_istore_n (lv' := [(3, .int x2), (2, .ref (o + 1 + 11 + j1)), (0, .ref (o + 55)), (1, .int a1)]) hx hb dX2_traceBack_14 rfl hl (by decide) rfl (fun ls hl => ?_)
  refine lv_aload_n hx hb dX2_traceBack_15 rfl (lv_at hl 2 rfl) ?_
  refine lv_iconst (v := 0) hx hb dX2_traceBack_16 (by decide) ?_
  refine pi_X2_106 cx hw (lNC_mind_L h0) dX2_traceBack_17 (fun mi3 H locs emi3 hw => ?_)
  have hf := nc_let_at hf emi3
  refine lv_iconst (v := 0) hx hb dX2_traceBack_20 (by decide) ?_
  refine lv_istore (lv' := [(4, .int 0), (3, .int x2), (2, .ref (o + 1 + 11 + j1)), (0, .ref (o + 55)), (1, .int a1)]) hx hb dX2_traceBack_21 hl (by decide) rfl (fun ls hl => ?_)
  refine nc_loop_w (P := fun κ : Int32 → Int32 → nc_Mem → Option (nc_Mem) => ∀ (x4 : Int32) (x5 : Int32) (mi6 : nc_Mem), κ x4 x5 mi6 = some res → ∀ (H : Heap) (locs : List Loc) (ls : Array Slot), nc_W G K mi6 H locs → lv_has ls 5 [(0, .ref (o + 55)), (1, .int a1), (2, .ref (o + 1 + 11 + j1)), (3, .int x4), (4, .int x5)] → W p l e rm_X2_traceBack s m args below meth c H locs 0 0 Q (F0 m 23 ls [])) ?_ ?_ 200 _ _ _ hf _ _ _ hw (lv_sub hl [3, 4, 2, 1, 0] rfl)
  · intro x4 x5 mi6 hf; exact absurd hf (by intro q; cases q)
  · intro rc7 ihrc7 x4 x5 mi6 hf H locs ls hw hl
    unfold B_X2_traceBack_23 at hf
    refine lv_iload hx hb dX2_traceBack_23 (lv_at hl 4 rfl) ?_
    refine lv_bipush (v := 7) hx hb dX2_traceBack_25 (by decide) ?_
    refine lv_icmp_ge (tgt := 51) hx hb dX2_traceBack_27 (by decide) (fun c8 => ?_) (fun c8 => ?_)
    · have hf := nc_ifp hf c8
      exact nc_vpm hret hf hw dX2_traceBack_51
    · have hf := nc_ifn hf c8
      refine lv_iload_n hx hb dX2_traceBack_30 rfl (lv_at hl 3 rfl) ?_
      refine lv_aload_n hx hb dX2_traceBack_31 rfl (lv_at hl 2 rfl) ?_
      refine gi_X2_86 cx hw (lThing_is ((lTown_goods_E (lNC_now_L h0) j1 lj1)).2) dX2_traceBack_32 ?_
      refine lv_icmp_eq (tgt := 51) hx hb dX2_traceBack_35 (by decide) (fun c9 => ?_) (fun c9 => ?_)
      · have hf := nc_ifp hf c9
        exact nc_vpm hret hf hw dX2_traceBack_51
      · have hf := nc_ifn hf c9
        refine lv_aload_n hx hb dX2_traceBack_38 rfl (lv_at hl 0 rfl) ?_
        refine lv_iload_n hx hb dX2_traceBack_39 rfl (lv_at hl 1 rfl) ?_
        refine lv_iload_n hx hb dX2_traceBack_40 rfl (lv_at hl 3 rfl) ?_
        obtain ⟨q10, hq10, hf⟩ := nc_bi hf
        refine nc_callVi cx hw lk_X2_109 (c_X2_traceStep l h0 mi6 a1 x4 q10 hq10) (ci := 2) rfl (lNC_mind_L h0) rfl hl.1 rfl (Nat.le_of_ble_eq_true rfl) ⟨rfl, rfl, Nat.le_of_ble_eq_true rfl, Nat.le_of_ble_eq_true rfl⟩ dX2_traceBack_41 (fun H locs hw => ?_)
        refine lv_istore_n (lv' := [(3, .int q10.2), (0, .ref (o + 55)), (1, .int a1), (2, .ref (o + 1 + 11 + j1)), (4, .int x5)]) hx hb dX2_traceBack_44 rfl hl (by decide) rfl (fun ls hl => ?_)
        obtain ⟨x11, ex11⟩ : ∃ y : Int32, y = x5 + 1 := ⟨_, rfl⟩
        have hf := nc_let_at hf ex11
        refine lv_iinc (v := x11) (lv' := [(4, .int x11), (3, .int q10.2), (0, .ref (o + 55)), (1, .int a1), (2, .ref (o + 1 + 11 + j1))]) hx hb dX2_traceBack_45 hl (k := 4) rfl (by rw [ex11]; rfl) (by decide) rfl (fun ls hl => ?_)
        refine lv_goto (tgt := 23) hx hb dX2_traceBack_48 (by decide) ?_
        exact ihrc7 _ _ _ hf _ _ _ hw (lv_sub hl [2, 3, 4, 1, 0] rfl)
abbrev rm_X2_carrierAt : Room := { frames := 0, cells := 0, slots := 0, locals := 0 }
set_option maxRecDepth 100000 in
set_option maxHeartbeats 4000000 in
theorem c_X2_carrierAt (l : Launch) {G : nc_G} {K : nc_K} {o : Nat} (h0 : nc_LNC G K o) (mi : nc_Mem) (a1 : Int32) (res : Int32) (hf : f_X2_carrierAt mi o a1 = some res) : nc_M l yX2_carrierAt cX2_carrierAt 2 (some .int) rm_X2_carrierAt 0 0 G K K [.ref (o + 55), .int a1] mi mi (some (.int res)) := by
  refine nc_meet_i (by decide) (Nat.le_of_ble_eq_true rfl) ?_
  intro p e s m args below meth c Q H locs ls cx hret hw hl
  have cx : nc_C p s m args c cX2_carrierAt 2 RX2 G := cx
  have hl : lv_has ls 2 [(0, .ref (o + 55)), (1, .int a1)] := hl
  have hx := cx.1
  have hb := cx.2.1
  unfold f_X2_carrierAt at hf
  refine lv_iload_n hx hb dX2_carrierAt_0 rfl (lv_at hl 1 rfl) ?_
  refine lv_if_lt (tgt := 28) hx hb dX2_carrierAt_1 (by decide) (fun c1 => ?_) (fun c1 => ?_)
  · have hf := nc_ifp hf c1
    refine lv_bipush (v := (-9)) hx hb dX2_carrierAt_28 (by decide) ?_
    exact nc_rpp hret hf rfl hw dX2_carrierAt_30
  · have hf := nc_ifn hf c1
    refine lv_iload_n hx hb dX2_carrierAt_4 rfl (lv_at hl 1 rfl) ?_
    refine lv_aload_n hx hb dX2_carrierAt_5 rfl (lv_at hl 0 rfl) ?_
    refine gi_X2_106 cx hw (lNC_mind_L h0) dX2_carrierAt_6 ?_
    refine lv_icmp_ge (tgt := 28) hx hb dX2_carrierAt_9 (by decide) (fun c2 => ?_) (fun c2 => ?_)
    · have hf := nc_ifp hf c2
      refine lv_bipush (v := (-9)) hx hb dX2_carrierAt_28 (by decide) ?_
      exact nc_rpp hret hf rfl hw dX2_carrierAt_30
    · have hf := nc_ifn hf c2
      refine lv_aload_n hx hb dX2_carrierAt_12 rfl (lv_at hl 0 rfl) ?_
      refine gr_X2_21 cx hw (lNC_mind_L h0) (lNC_m_carrier h0) (lNC_m_carrier_L h0) dX2_carrierAt_13 ?_
      refine lv_aload_n hx hb dX2_carrierAt_16 rfl (lv_at hl 0 rfl) ?_
      refine gi_X2_106 cx hw (lNC_mind_L h0) dX2_carrierAt_17 ?_
      refine lv_iconst (v := 1) hx hb dX2_carrierAt_20 (by decide) ?_
      refine lv_isub hx hb dX2_carrierAt_21 ?_
      refine lv_iload_n hx hb dX2_carrierAt_22 rfl (lv_at hl 1 rfl) ?_
      refine lv_isub hx hb dX2_carrierAt_23 ?_
      obtain ⟨j3, ej3, ij3, lj3, hf⟩ := nc_ix hf
      refine nc_ild cx hw (lNC_m_carrier_L h0) ij3 ej3 dX2_carrierAt_24 ?_
      refine lv_goto (tgt := 30) hx hb dX2_carrierAt_25 (by decide) ?_
      exact nc_rpp hret hf rfl hw dX2_carrierAt_30
abbrev rm_X7_over : Room := { frames := 6, cells := 0, slots := 0, locals := 141 }
set_option maxRecDepth 100000 in
set_option maxHeartbeats 4000000 in
theorem c_X7_over (l : Launch) {G : nc_G} {K : nc_K} {o : Nat} (h0 : nc_LNC G K o) (mi : nc_Mem) (a1 a2 : Int32) (res : nc_Mem × Int32) (hf : f_X7_over mi o a1 a2 = some res) : nc_M l yX7_over cX7_over 3 (some .int) rm_X7_over 0 0 G K K [.ref o, .int a1, .int a2] mi res.1 (some (.int res.2)) := by
  refine nc_meet_i (by decide) (Nat.le_of_ble_eq_true rfl) ?_
  intro p e s m args below meth c Q H locs ls cx hret hw hl
  have cx : nc_C p s m args c cX7_over 3 RX7 G := cx
  have hl : lv_has ls 3 [(0, .ref o), (1, .int a1), (2, .int a2)] := hl
  have hx := cx.1
  have hb := cx.2.1
  unfold f_X7_over at hf
  refine lv_aload_n hx hb dX7_over_0 rfl (lv_at hl 0 rfl) ?_
  refine gr_X7_10 cx hw (lNC_is h0) (lNC_now h0) (lTown_is (lNC_now_L h0)) dX7_over_1 ?_
  refine lv_iload_n hx hb dX7_over_4 rfl (lv_at hl 1 rfl) ?_
  refine nc_callVi cx hw lk_X7_101 (c_X5_isThing l (lNC_now_L h0) mi a1 _ rfl) (ci := 5) rfl (lTown_is (lNC_now_L h0)) rfl hl.1 rfl (Nat.le_of_ble_eq_true rfl) ⟨rfl, rfl, Nat.le_of_ble_eq_true rfl, Nat.le_of_ble_eq_true rfl⟩ dX7_over_5 (fun H locs hw => ?_)
  refine lv_if_ne (tgt := 17) hx hb dX7_over_8 (by decide) (fun c1 => ?_) (fun c1 => ?_)
  · have hf := nc_ifn hf c1
    refine lv_iload_n hx hb dX7_over_17 rfl (lv_at hl 2 rfl) ?_
    refine lv_iconst (v := (-1)) hx hb dX7_over_18 (by decide) ?_
    refine lv_icmp_ge (tgt := 29) hx hb dX7_over_19 (by decide) (fun c2 => ?_) (fun c2 => ?_)
    · have hf := nc_ifp hf c2
      refine lv_aload_n hx hb dX7_over_29 rfl (lv_at hl 0 rfl) ?_
      refine gr_X7_34 cx hw (lNC_is h0) (lNC_mind h0) (lNC_mind_L h0) dX7_over_30 ?_
      obtain ⟨q3, hq3, hf⟩ := nc_bi hf
      refine nc_callVv cx hw lk_X7_155 (c_X2_recall l h0 mi  q3 hq3) (ci := 2) rfl (lNC_mind_L h0) rfl hl.1 rfl (Nat.le_of_ble_eq_true rfl) ⟨rfl, rfl, Nat.le_of_ble_eq_true rfl, Nat.le_of_ble_eq_true rfl⟩ dX7_over_33 (fun H locs hw => ?_)
      refine lv_aload_n hx hb dX7_over_36 rfl (lv_at hl 0 rfl) ?_
      refine gr_X7_34 cx hw (lNC_is h0) (lNC_mind h0) (lNC_mind_L h0) dX7_over_37 ?_
      refine lv_iload_n hx hb dX7_over_40 rfl (lv_at hl 1 rfl) ?_
      obtain ⟨q4, hq4, hf⟩ := nc_bi hf
      refine nc_callVi cx hw lk_X7_158 (c_X2_soonestOf l h0 q3 a1 q4 hq4) (ci := 2) rfl (lNC_mind_L h0) rfl hl.1 rfl (Nat.le_of_ble_eq_true rfl) ⟨rfl, rfl, Nat.le_of_ble_eq_true rfl, Nat.le_of_ble_eq_true rfl⟩ dX7_over_41 (fun H locs hw => ?_)
      refine lv_bipush (v := (-9)) hx hb dX7_over_44 (by decide) ?_
      refine lv_icmp_ne (tgt := 52) hx hb dX7_over_46 (by decide) (fun c5 => ?_) (fun c5 => ?_)
      · have hf := nc_ifn hf c5
        refine lv_aload_n hx hb dX7_over_52 rfl (lv_at hl 0 rfl) ?_
        refine gr_X7_34 cx hw (lNC_is h0) (lNC_mind h0) (lNC_mind_L h0) dX7_over_53 ?_
        refine lv_iload_n hx hb dX7_over_56 rfl (lv_at hl 1 rfl) ?_
        obtain ⟨q6, hq6, hf⟩ := nc_bi hf
        refine nc_callVv cx hw lk_X7_161 (c_X2_traceBack l h0 q4.1 a1 q6 hq6) (ci := 2) rfl (lNC_mind_L h0) rfl hl.1 rfl (Nat.le_of_ble_eq_true rfl) ⟨rfl, rfl, Nat.le_of_ble_eq_true rfl, Nat.le_of_ble_eq_true rfl⟩ dX7_over_57 (fun H locs hw => ?_)
        refine lv_iload_n hx hb dX7_over_60 rfl (lv_at hl 2 rfl) ?_
        refine lv_if_ge (tgt := 74) hx hb dX7_over_61 (by decide) (fun c7 => ?_) (fun c7 => ?_)
        · have hf := nc_ifp hf c7
          refine lv_aload_n hx hb dX7_over_74 rfl (lv_at hl 0 rfl) ?_
          refine gr_X7_34 cx hw (lNC_is h0) (lNC_mind h0) (lNC_mind_L h0) dX7_over_75 ?_
          refine lv_iload_n hx hb dX7_over_78 rfl (lv_at hl 2 rfl) ?_
          obtain ⟨q8, hq8, hf⟩ := nc_bi hf
          refine nc_callVi cx hw lk_X7_168 (c_X2_carrierAt l h0 q6 a2 q8 hq8) (ci := 2) rfl (lNC_mind_L h0) rfl hl.1 rfl (Nat.le_of_ble_eq_true rfl) ⟨rfl, rfl, Nat.le_of_ble_eq_true rfl, Nat.le_of_ble_eq_true rfl⟩ dX7_over_79 (fun H locs hw => ?_)
          exact nc_rpm hret hf rfl hw dX7_over_82
        · have hf := nc_ifn hf c7
          refine lv_aload_n hx hb dX7_over_64 rfl (lv_at hl 0 rfl) ?_
          refine gr_X7_34 cx hw (lNC_is h0) (lNC_mind h0) (lNC_mind_L h0) dX7_over_65 ?_
          refine gi_X7_165 cx hw (lNC_mind_L h0) dX7_over_68 ?_
          refine lv_goto (tgt := 82) hx hb dX7_over_71 (by decide) ?_
          exact nc_rpm hret hf rfl hw dX7_over_82
      · have hf := nc_ifp hf c5
        refine lv_bipush (v := (-9)) hx hb dX7_over_49 (by decide) ?_
        exact nc_rpm hret hf rfl hw dX7_over_51
    · have hf := nc_ifn hf c2
      refine lv_aload_n hx hb dX7_over_22 rfl (lv_at hl 0 rfl) ?_
      refine lv_bipush (v := (-4)) hx hb dX7_over_23 (by decide) ?_
      obtain ⟨q9, hq9, hf⟩ := nc_bi hf
      refine nc_callVi cx hw lk_X7_60 (c_X7_refuse l h0 mi (-4) q9 hq9) (ci := 7) rfl (lNC_is h0) rfl hl.1 rfl (Nat.le_of_ble_eq_true rfl) ⟨rfl, rfl, Nat.le_of_ble_eq_true rfl, Nat.le_of_ble_eq_true rfl⟩ dX7_over_25 (fun H locs hw => ?_)
      exact nc_rpm hret hf rfl hw dX7_over_28
  · have hf := nc_ifp hf c1
    refine lv_aload_n hx hb dX7_over_11 rfl (lv_at hl 0 rfl) ?_
    refine lv_iconst (v := (-1)) hx hb dX7_over_12 (by decide) ?_
    obtain ⟨q10, hq10, hf⟩ := nc_bi hf
    refine nc_callVi cx hw lk_X7_60 (c_X7_refuse l h0 mi (-1) q10 hq10) (ci := 7) rfl (lNC_is h0) rfl hl.1 rfl (Nat.le_of_ble_eq_true rfl) ⟨rfl, rfl, Nat.le_of_ble_eq_true rfl, Nat.le_of_ble_eq_true rfl⟩ dX7_over_13 (fun H locs hw => ?_)
    exact nc_rpm hret hf rfl hw dX7_over_16
abbrev rm_X2_barredBits : Room := { frames := 4, cells := 0, slots := 0, locals := 102 }
set_option maxRecDepth 100000 in
set_option maxHeartbeats 4000000 in
theorem c_X2_barredBits (l : Launch) {G : nc_G} {K : nc_K} {o : Nat} (h0 : nc_LNC G K o) (mi : nc_Mem) (a1 : Int32) (res : nc_Mem × Int32) (hf : f_X2_barredBits mi o a1 = some res) : nc_M l yX2_barredBits cX2_barredBits 4 (some .int) rm_X2_barredBits 0 0 G K K [.ref (o + 55), .int a1] mi res.1 (some (.int res.2)) := by
  refine nc_meet_i (by decide) (Nat.le_of_ble_eq_true rfl) ?_
  intro p e s m args below meth c Q H locs ls cx hret hw hl
  have cx : nc_C p s m args c cX2_barredBits 4 RX2 G := cx
  have hl : lv_has ls 4 [(0, .ref (o + 55)), (1, .int a1)] := hl
  have hx := cx.1
  have hb := cx.2.1
  unfold f_X2_barredBits at hf
  refine lv_aload_n hx hb dX2_barredBits_0 rfl (lv_at hl 0 rfl) ?_
  refine lv_iload_n hx hb dX2_barredBits_1 rfl (lv_at hl 1 rfl) ?_
  obtain ⟨q1, hq1, hf⟩ := nc_bi hf
  refine nc_callVi cx hw lk_X2_121 (c_X2_soonestOf l h0 mi a1 q1 hq1) (ci := 2) rfl (lNC_mind_L h0) rfl hl.1 rfl (Nat.le_of_ble_eq_true rfl) ⟨rfl, rfl, Nat.le_of_ble_eq_true rfl, Nat.le_of_ble_eq_true rfl⟩ dX2_barredBits_2 (fun H locs hw => ?_)
  refine lv_bipush (v := (-9)) hx hb dX2_barredBits_5 (by decide) ?_
  refine lv_icmp_eq (tgt := 12) hx hb dX2_barredBits_7 (by decide) (fun c2 => ?_) (fun c2 => ?_)
  · have hf := nc_ifp hf c2
    refine lv_iconst (v := 0) hx hb dX2_barredBits_12 (by decide) ?_
    refine lv_istore_n (lv' := [(2, .int 0), (0, .ref (o + 55)), (1, .int a1)]) hx hb dX2_barredBits_13 rfl hl (by decide) rfl (fun ls hl => ?_)
    refine lv_iconst (v := 0) hx hb dX2_barredBits_14 (by decide) ?_
    refine lv_istore_n (lv' := [(3, .int 0), (2, .int 0), (0, .ref (o + 55)), (1, .int a1)]) hx hb dX2_barredBits_15 rfl hl (by decide) rfl (fun ls hl => ?_)
    obtain ⟨k3, ek3, hf⟩ := nc_jn_of hf
    have hk3 : ∀ (x4 : Int32) (mi5 : nc_Mem), k3 x4 mi5 = some res → ∀ (H : Heap) (locs : List Loc) (ls : Array Slot), nc_W G K mi5 H locs → lv_has ls 4 [(0, .ref (o + 55)), (2, .int x4)] → W p l e rm_X2_barredBits s m args below meth c H locs 0 0 Q (F0 m 54 ls []) := by
      intro x4 mi5 hf H locs ls hw hl
      have hf := ((congrFun (congrFun ek3 x4) mi5)).symm.trans hf
      refine lv_aload_n hx hb dX2_barredBits_54 rfl (lv_at hl 0 rfl) ?_
      refine lv_bipush (v := (-9)) hx hb dX2_barredBits_55 (by decide) ?_
      refine pi_X2_38 cx hw (lNC_mind_L h0) dX2_barredBits_57 (fun mi6 H locs emi6 hw => ?_)
      have hf := nc_let_at hf emi6
      refine lv_iload_n hx hb dX2_barredBits_60 rfl (lv_at hl 1 rfl) ?_
      exact nc_rpm hret hf rfl hw dX2_barredBits_61
    refine nc_loop_w (P := fun κ : Int32 → Int32 → nc_Mem → Option (nc_Mem × Int32) => ∀ (x7 : Int32) (x8 : Int32) (mi9 : nc_Mem), κ x7 x8 mi9 = some res → ∀ (H : Heap) (locs : List Loc) (ls : Array Slot), nc_W G K mi9 H locs → lv_has ls 4 [(0, .ref (o + 55)), (1, .int a1), (2, .int x7), (3, .int x8)] → W p l e rm_X2_barredBits s m args below meth c H locs 0 0 Q (F0 m 16 ls [])) ?_ ?_ 200 _ _ _ hf _ _ _ hw (lv_sub hl [2, 3, 1, 0] rfl)
    · intro x7 x8 mi9 hf; exact absurd hf (by intro q; cases q)
    · intro rc10 ihrc10 x7 x8 mi9 hf H locs ls hw hl
      unfold B_X2_barredBits_16 at hf
      refine lv_iload_n hx hb dX2_barredBits_16 rfl (lv_at hl 3 rfl) ?_
      refine lv_aload_n hx hb dX2_barredBits_17 rfl (lv_at hl 0 rfl) ?_
      refine gr_X2_24 cx hw (lNC_mind_L h0) (lNC_m_town h0) (lTown_is (lNC_now_L h0)) dX2_barredBits_18 ?_
      refine gi_X2_41 cx hw (lTown_is (lNC_now_L h0)) dX2_barredBits_21 ?_
      refine lv_icmp_ge (tgt := 54) hx hb dX2_barredBits_24 (by decide) (fun c11 => ?_) (fun c11 => ?_)
      · have hf := nc_ifp hf c11
        exact hk3 _ _ hf _ _ _ hw (lv_sub hl [0, 2] rfl)
      · have hf := nc_ifn hf c11
        refine lv_aload_n hx hb dX2_barredBits_27 rfl (lv_at hl 0 rfl) ?_
        refine lv_iload_n hx hb dX2_barredBits_28 rfl (lv_at hl 3 rfl) ?_
        refine pi_X2_38 cx hw (lNC_mind_L h0) dX2_barredBits_29 (fun mi12 H locs emi12 hw => ?_)
        have hf := nc_let_at hf emi12
        refine lv_aload_n hx hb dX2_barredBits_32 rfl (lv_at hl 0 rfl) ?_
        refine lv_iload_n hx hb dX2_barredBits_33 rfl (lv_at hl 1 rfl) ?_
        obtain ⟨q13, hq13, hf⟩ := nc_bi hf
        refine nc_callVi cx hw lk_X2_121 (c_X2_soonestOf l h0 mi12 a1 q13 hq13) (ci := 2) rfl (lNC_mind_L h0) rfl hl.1 rfl (Nat.le_of_ble_eq_true rfl) ⟨rfl, rfl, Nat.le_of_ble_eq_true rfl, Nat.le_of_ble_eq_true rfl⟩ dX2_barredBits_34 (fun H locs hw => ?_)
        refine lv_bipush (v := (-9)) hx hb dX2_barredBits_37 (by decide) ?_
        refine lv_icmp_eq (tgt := 48) hx hb dX2_barredBits_39 (by decide) (fun c14 => ?_) (fun c14 => ?_)
        · have hf := nc_ifp hf c14
          obtain ⟨x15, ex15⟩ : ∃ y : Int32, y = x8 + 1 := ⟨_, rfl⟩
          have hf := nc_let_at hf ex15
          refine lv_iinc (v := x15) (lv' := [(3, .int x15), (0, .ref (o + 55)), (1, .int a1), (2, .int x7)]) hx hb dX2_barredBits_48 hl (k := 3) rfl (by rw [ex15]; rfl) (by decide) rfl (fun ls hl => ?_)
          refine lv_goto (tgt := 16) hx hb dX2_barredBits_51 (by decide) ?_
          exact ihrc10 _ _ _ hf _ _ _ hw (lv_sub hl [1, 2, 3, 0] rfl)
        · have hf := nc_ifn hf c14
          refine lv_iload_n hx hb dX2_barredBits_42 rfl (lv_at hl 2 rfl) ?_
          refine lv_iconst (v := 1) hx hb dX2_barredBits_43 (by decide) ?_
          refine lv_iload_n hx hb dX2_barredBits_44 rfl (lv_at hl 3 rfl) ?_
          refine lv_ishl hx hb dX2_barredBits_45 ?_
          refine lv_ior hx hb dX2_barredBits_46 ?_
          refine lv_topi (fun x16 ex16 => ?_)
          have hf := nc_let_at hf ex16
          refine lv_istore_n (lv' := [(2, .int x16), (0, .ref (o + 55)), (1, .int a1), (3, .int x8)]) hx hb dX2_barredBits_47 rfl hl (by decide) rfl (fun ls hl => ?_)
          obtain ⟨x17, ex17⟩ : ∃ y : Int32, y = x8 + 1 := ⟨_, rfl⟩
          have hf := nc_let_at hf ex17
          refine lv_iinc (v := x17) (lv' := [(3, .int x17), (2, .int x16), (0, .ref (o + 55)), (1, .int a1)]) hx hb dX2_barredBits_48 hl (k := 3) rfl (by rw [ex17]; rfl) (by decide) rfl (fun ls hl => ?_)
          refine lv_goto (tgt := 16) hx hb dX2_barredBits_51 (by decide) ?_
          exact ihrc10 _ _ _ hf _ _ _ hw (lv_sub hl [2, 3, 1, 0] rfl)
  · have hf := nc_ifn hf c2
    refine lv_iconst (v := 0) hx hb dX2_barredBits_10 (by decide) ?_
    exact nc_rpm hret hf rfl hw dX2_barredBits_11
abbrev rm_X7_bars : Room := { frames := 6, cells := 0, slots := 0, locals := 141 }
set_option maxRecDepth 100000 in
set_option maxHeartbeats 4000000 in
theorem c_X7_bars (l : Launch) {G : nc_G} {K : nc_K} {o : Nat} (h0 : nc_LNC G K o) (mi : nc_Mem) (a1 : Int32) (res : nc_Mem × Int32) (hf : f_X7_bars mi o a1 = some res) : nc_M l yX7_bars cX7_bars 2 (some .int) rm_X7_bars 0 0 G K K [.ref o, .int a1] mi res.1 (some (.int res.2)) := by
  refine nc_meet_i (by decide) (Nat.le_of_ble_eq_true rfl) ?_
  intro p e s m args below meth c Q H locs ls cx hret hw hl
  have cx : nc_C p s m args c cX7_bars 2 RX7 G := cx
  have hl : lv_has ls 2 [(0, .ref o), (1, .int a1)] := hl
  have hx := cx.1
  have hb := cx.2.1
  unfold f_X7_bars at hf
  refine lv_aload_n hx hb dX7_bars_0 rfl (lv_at hl 0 rfl) ?_
  refine gr_X7_10 cx hw (lNC_is h0) (lNC_now h0) (lTown_is (lNC_now_L h0)) dX7_bars_1 ?_
  refine lv_iload_n hx hb dX7_bars_4 rfl (lv_at hl 1 rfl) ?_
  refine nc_callVi cx hw lk_X7_101 (c_X5_isThing l (lNC_now_L h0) mi a1 _ rfl) (ci := 5) rfl (lTown_is (lNC_now_L h0)) rfl hl.1 rfl (Nat.le_of_ble_eq_true rfl) ⟨rfl, rfl, Nat.le_of_ble_eq_true rfl, Nat.le_of_ble_eq_true rfl⟩ dX7_bars_5 (fun H locs hw => ?_)
  refine lv_if_ne (tgt := 17) hx hb dX7_bars_8 (by decide) (fun c1 => ?_) (fun c1 => ?_)
  · have hf := nc_ifn hf c1
    refine lv_aload_n hx hb dX7_bars_17 rfl (lv_at hl 0 rfl) ?_
    refine gr_X7_34 cx hw (lNC_is h0) (lNC_mind h0) (lNC_mind_L h0) dX7_bars_18 ?_
    obtain ⟨q2, hq2, hf⟩ := nc_bi hf
    refine nc_callVv cx hw lk_X7_155 (c_X2_recall l h0 mi  q2 hq2) (ci := 2) rfl (lNC_mind_L h0) rfl hl.1 rfl (Nat.le_of_ble_eq_true rfl) ⟨rfl, rfl, Nat.le_of_ble_eq_true rfl, Nat.le_of_ble_eq_true rfl⟩ dX7_bars_21 (fun H locs hw => ?_)
    refine lv_aload_n hx hb dX7_bars_24 rfl (lv_at hl 0 rfl) ?_
    refine gr_X7_34 cx hw (lNC_is h0) (lNC_mind h0) (lNC_mind_L h0) dX7_bars_25 ?_
    refine lv_iload_n hx hb dX7_bars_28 rfl (lv_at hl 1 rfl) ?_
    obtain ⟨q3, hq3, hf⟩ := nc_bi hf
    refine nc_callVi cx hw lk_X7_171 (c_X2_barredBits l h0 q2 a1 q3 hq3) (ci := 2) rfl (lNC_mind_L h0) rfl hl.1 rfl (Nat.le_of_ble_eq_true rfl) ⟨rfl, rfl, Nat.le_of_ble_eq_true rfl, Nat.le_of_ble_eq_true rfl⟩ dX7_bars_29 (fun H locs hw => ?_)
    exact nc_rpm hret hf rfl hw dX7_bars_32
  · have hf := nc_ifp hf c1
    refine lv_aload_n hx hb dX7_bars_11 rfl (lv_at hl 0 rfl) ?_
    refine lv_iconst (v := (-1)) hx hb dX7_bars_12 (by decide) ?_
    obtain ⟨q4, hq4, hf⟩ := nc_bi hf
    refine nc_callVi cx hw lk_X7_60 (c_X7_refuse l h0 mi (-1) q4 hq4) (ci := 7) rfl (lNC_is h0) rfl hl.1 rfl (Nat.le_of_ble_eq_true rfl) ⟨rfl, rfl, Nat.le_of_ble_eq_true rfl, Nat.le_of_ble_eq_true rfl⟩ dX7_bars_13 (fun H locs hw => ?_)
    exact nc_rpm hret hf rfl hw dX7_bars_16
abbrev rm_X7_never : Room := { frames := 6, cells := 0, slots := 0, locals := 141 }
set_option maxRecDepth 100000 in
set_option maxHeartbeats 4000000 in
theorem c_X7_never (l : Launch) {G : nc_G} {K : nc_K} {o : Nat} (h0 : nc_LNC G K o) (mi : nc_Mem)  (res : nc_Mem × Int32) (hf : f_X7_never mi o = some res) : nc_M l yX7_never cX7_never 3 (some .int) rm_X7_never 0 0 G K K [.ref o] mi res.1 (some (.int res.2)) := by
  refine nc_meet_i (by decide) (Nat.le_of_ble_eq_true rfl) ?_
  intro p e s m args below meth c Q H locs ls cx hret hw hl
  have cx : nc_C p s m args c cX7_never 3 RX7 G := cx
  have hl : lv_has ls 3 [(0, .ref o)] := hl
  have hx := cx.1
  have hb := cx.2.1
  unfold f_X7_never at hf
  refine lv_aload_n hx hb dX7_never_0 rfl (lv_at hl 0 rfl) ?_
  refine gr_X7_34 cx hw (lNC_is h0) (lNC_mind h0) (lNC_mind_L h0) dX7_never_1 ?_
  obtain ⟨q1, hq1, hf⟩ := nc_bi hf
  refine nc_callVv cx hw lk_X7_155 (c_X2_recall l h0 mi  q1 hq1) (ci := 2) rfl (lNC_mind_L h0) rfl hl.1 rfl (Nat.le_of_ble_eq_true rfl) ⟨rfl, rfl, Nat.le_of_ble_eq_true rfl, Nat.le_of_ble_eq_true rfl⟩ dX7_never_4 (fun H locs hw => ?_)
  refine lv_iconst (v := 0) hx hb dX7_never_7 (by decide) ?_
  refine lv_istore_n (lv' := [(1, .int 0), (0, .ref o)]) hx hb dX7_never_8 rfl hl (by decide) rfl (fun ls hl => ?_)
  refine lv_iconst (v := 0) hx hb dX7_never_9 (by decide) ?_
  refine lv_istore_n (lv' := [(2, .int 0), (1, .int 0), (0, .ref o)]) hx hb dX7_never_10 rfl hl (by decide) rfl (fun ls hl => ?_)
  refine nc_loop_w (P := fun κ : Int32 → Int32 → nc_Mem → Option (nc_Mem × Int32) => ∀ (x2 : Int32) (x3 : Int32) (mi4 : nc_Mem), κ x2 x3 mi4 = some res → ∀ (H : Heap) (locs : List Loc) (ls : Array Slot), nc_W G K mi4 H locs → lv_has ls 3 [(0, .ref o), (1, .int x2), (2, .int x3)] → W p l e rm_X7_never s m args below meth c H locs 0 0 Q (F0 m 11 ls [])) ?_ ?_ 200 _ _ _ hf _ _ _ hw (lv_sub hl [2, 1, 0] rfl)
  · intro x2 x3 mi4 hf; exact absurd hf (by intro q; cases q)
  · intro rc5 ihrc5 x2 x3 mi4 hf H locs ls hw hl
    unfold B_X7_never_11 at hf
    refine lv_iload_n hx hb dX7_never_11 rfl (lv_at hl 2 rfl) ?_
    refine lv_aload_n hx hb dX7_never_12 rfl (lv_at hl 0 rfl) ?_
    refine gr_X7_10 cx hw (lNC_is h0) (lNC_now h0) (lTown_is (lNC_now_L h0)) dX7_never_13 ?_
    refine gi_X7_140 cx hw (lTown_is (lNC_now_L h0)) dX7_never_16 ?_
    refine lv_icmp_ge (tgt := 47) hx hb dX7_never_19 (by decide) (fun c6 => ?_) (fun c6 => ?_)
    · have hf := nc_ifp hf c6
      refine lv_iload_n hx hb dX7_never_47 rfl (lv_at hl 1 rfl) ?_
      exact nc_rpm hret hf rfl hw dX7_never_48
    · have hf := nc_ifn hf c6
      refine lv_aload_n hx hb dX7_never_22 rfl (lv_at hl 0 rfl) ?_
      refine gr_X7_34 cx hw (lNC_is h0) (lNC_mind h0) (lNC_mind_L h0) dX7_never_23 ?_
      refine lv_iload_n hx hb dX7_never_26 rfl (lv_at hl 2 rfl) ?_
      obtain ⟨q7, hq7, hf⟩ := nc_bi hf
      refine nc_callVi cx hw lk_X7_158 (c_X2_soonestOf l h0 mi4 x3 q7 hq7) (ci := 2) rfl (lNC_mind_L h0) rfl hl.1 rfl (Nat.le_of_ble_eq_true rfl) ⟨rfl, rfl, Nat.le_of_ble_eq_true rfl, Nat.le_of_ble_eq_true rfl⟩ dX7_never_27 (fun H locs hw => ?_)
      refine lv_bipush (v := (-9)) hx hb dX7_never_30 (by decide) ?_
      refine lv_icmp_ne (tgt := 41) hx hb dX7_never_32 (by decide) (fun c8 => ?_) (fun c8 => ?_)
      · have hf := nc_ifn hf c8
        obtain ⟨x9, ex9⟩ : ∃ y : Int32, y = x3 + 1 := ⟨_, rfl⟩
        have hf := nc_let_at hf ex9
        refine lv_iinc (v := x9) (lv' := [(2, .int x9), (0, .ref o), (1, .int x2)]) hx hb dX7_never_41 hl (k := 2) rfl (by rw [ex9]; rfl) (by decide) rfl (fun ls hl => ?_)
        refine lv_goto (tgt := 11) hx hb dX7_never_44 (by decide) ?_
        exact ihrc5 _ _ _ hf _ _ _ hw (lv_sub hl [1, 2, 0] rfl)
      · have hf := nc_ifp hf c8
        refine lv_iload_n hx hb dX7_never_35 rfl (lv_at hl 1 rfl) ?_
        refine lv_iconst (v := 1) hx hb dX7_never_36 (by decide) ?_
        refine lv_iload_n hx hb dX7_never_37 rfl (lv_at hl 2 rfl) ?_
        refine lv_ishl hx hb dX7_never_38 ?_
        refine lv_ior hx hb dX7_never_39 ?_
        refine lv_topi (fun x10 ex10 => ?_)
        have hf := nc_let_at hf ex10
        refine lv_istore_n (lv' := [(1, .int x10), (0, .ref o), (2, .int x3)]) hx hb dX7_never_40 rfl hl (by decide) rfl (fun ls hl => ?_)
        obtain ⟨x11, ex11⟩ : ∃ y : Int32, y = x3 + 1 := ⟨_, rfl⟩
        have hf := nc_let_at hf ex11
        refine lv_iinc (v := x11) (lv' := [(2, .int x11), (1, .int x10), (0, .ref o)]) hx hb dX7_never_41 hl (k := 2) rfl (by rw [ex11]; rfl) (by decide) rfl (fun ls hl => ?_)
        refine lv_goto (tgt := 11) hx hb dX7_never_44 (by decide) ?_
        exact ihrc5 _ _ _ hf _ _ _ hw (lv_sub hl [2, 1, 0] rfl)
abbrev rm_X2_somebodyComesBy : Room := { frames := 2, cells := 0, slots := 0, locals := 50 }
set_option maxRecDepth 100000 in
set_option maxHeartbeats 4000000 in
theorem c_X2_somebodyComesBy (l : Launch) {G : nc_G} {K : nc_K} {o : Nat} (h0 : nc_LNC G K o) (mi : nc_Mem) (a1 a2 : Int32) (res : Int32) (hf : f_X2_somebodyComesBy mi o a1 a2 = some res) : nc_M l yX2_somebodyComesBy cX2_somebodyComesBy 5 (some .boolean) rm_X2_somebodyComesBy 0 0 G K K [.ref (o + 55), .int a1, .int a2] mi mi (some (.int res)) := by
  refine nc_meet_i (by decide) (Nat.le_of_ble_eq_true rfl) ?_
  intro p e s m args below meth c Q H locs ls cx hret hw hl
  have cx : nc_C p s m args c cX2_somebodyComesBy 5 RX2 G := cx
  have hl : lv_has ls 5 [(0, .ref (o + 55)), (1, .int a1), (2, .int a2)] := hl
  have hx := cx.1
  have hb := cx.2.1
  unfold f_X2_somebodyComesBy at hf
  refine lv_iconst (v := 0) hx hb dX2_somebodyComesBy_0 (by decide) ?_
  refine lv_istore_n (lv' := [(3, .int 0), (0, .ref (o + 55)), (1, .int a1), (2, .int a2)]) hx hb dX2_somebodyComesBy_1 rfl hl (by decide) rfl (fun ls hl => ?_)
  refine nc_loop_w (P := fun κ : Int32 → Option (Int32) => ∀ (x1 : Int32), κ x1 = some res → ∀ (H : Heap) (locs : List Loc) (ls : Array Slot), nc_W G K mi H locs → lv_has ls 5 [(0, .ref (o + 55)), (1, .int a1), (2, .int a2), (3, .int x1)] → W p l e rm_X2_somebodyComesBy s m args below meth c H locs 0 0 Q (F0 m 2 ls [])) ?_ ?_ 200 _ hf _ _ _ hw (lv_sub hl [1, 2, 3, 0] rfl)
  · intro x1 hf; exact absurd hf (by intro q; cases q)
  · intro rc2 ihrc2 x1 hf H locs ls hw hl
    unfold B_X2_somebodyComesBy_2 at hf
    refine lv_iload_n hx hb dX2_somebodyComesBy_2 rfl (lv_at hl 3 rfl) ?_
    refine lv_aload_n hx hb dX2_somebodyComesBy_3 rfl (lv_at hl 0 rfl) ?_
    refine gr_X2_24 cx hw (lNC_mind_L h0) (lNC_m_town h0) (lTown_is (lNC_now_L h0)) dX2_somebodyComesBy_4 ?_
    refine gi_X2_41 cx hw (lTown_is (lNC_now_L h0)) dX2_somebodyComesBy_7 ?_
    refine lv_icmp_ge (tgt := 59) hx hb dX2_somebodyComesBy_10 (by decide) (fun c3 => ?_) (fun c3 => ?_)
    · have hf := nc_ifp hf c3
      refine lv_iconst (v := 0) hx hb dX2_somebodyComesBy_59 (by decide) ?_
      exact nc_rpp hret hf rfl hw dX2_somebodyComesBy_60
    · have hf := nc_ifn hf c3
      refine lv_aload_n hx hb dX2_somebodyComesBy_13 rfl (lv_at hl 0 rfl) ?_
      refine gr_X2_11 cx hw (lNC_mind_L h0) (lNC_m_ways h0) (lNC_m_ways_L h0) dX2_somebodyComesBy_14 ?_
      refine lv_iload_n hx hb dX2_somebodyComesBy_17 rfl (lv_at hl 3 rfl) ?_
      obtain ⟨j4, ej4, ij4, lj4, hf⟩ := nc_ix hf
      refine nc_ald cx hw (by decide) (lNC_m_ways_L h0) ij4 ej4 ((lNC_m_ways_E h0 j4 lj4)).1 (lWay_is ((lNC_m_ways_E h0 j4 lj4)).2) dX2_somebodyComesBy_18 ?_
      refine lv_iload_n hx hb dX2_somebodyComesBy_19 rfl (lv_at hl 2 rfl) ?_
      obtain ⟨q5, hq5, hf⟩ := nc_bi hf
      refine nc_callVi cx hw lk_X2_113 (c_X6_indexAt l ((lNC_m_ways_E h0 j4 lj4)).2 mi a2 q5 hq5) (ci := 6) rfl (lWay_is ((lNC_m_ways_E h0 j4 lj4)).2) rfl hl.1 rfl (Nat.le_of_ble_eq_true rfl) ⟨rfl, rfl, Nat.le_of_ble_eq_true rfl, Nat.le_of_ble_eq_true rfl⟩ dX2_somebodyComesBy_20 (fun H locs hw => ?_)
      refine lv_istore (lv' := [(4, .int q5), (0, .ref (o + 55)), (1, .int a1), (2, .int a2), (3, .int x1)]) hx hb dX2_somebodyComesBy_23 hl (by decide) rfl (fun ls hl => ?_)
      refine lv_iload hx hb dX2_somebodyComesBy_25 (lv_at hl 0 rfl) ?_
      refine lv_if_lt (tgt := 53) hx hb dX2_somebodyComesBy_27 (by decide) (fun c6 => ?_) (fun c6 => ?_)
      · have hf := nc_ifp hf c6
        obtain ⟨x7, ex7⟩ : ∃ y : Int32, y = x1 + 1 := ⟨_, rfl⟩
        have hf := nc_let_at hf ex7
        refine lv_iinc (v := x7) (lv' := [(3, .int x7), (4, .int q5), (0, .ref (o + 55)), (1, .int a1), (2, .int a2)]) hx hb dX2_somebodyComesBy_53 hl (k := 4) rfl (by rw [ex7]; rfl) (by decide) rfl (fun ls hl => ?_)
        refine lv_goto (tgt := 2) hx hb dX2_somebodyComesBy_56 (by decide) ?_
        exact ihrc2 _ hf _ _ _ hw (lv_sub hl [2, 3, 4, 0] rfl)
      · have hf := nc_ifn hf c6
        refine lv_aload_n hx hb dX2_somebodyComesBy_30 rfl (lv_at hl 1 rfl) ?_
        refine lv_iload_n hx hb dX2_somebodyComesBy_31 rfl (lv_at hl 4 rfl) ?_
        refine lv_iload_n hx hb dX2_somebodyComesBy_32 rfl (lv_at hl 2 rfl) ?_
        refine lv_aload_n hx hb dX2_somebodyComesBy_33 rfl (lv_at hl 1 rfl) ?_
        refine gr_X2_11 cx hw (lNC_mind_L h0) (lNC_m_ways h0) (lNC_m_ways_L h0) dX2_somebodyComesBy_34 ?_
        refine lv_iload_n hx hb dX2_somebodyComesBy_37 rfl (lv_at hl 4 rfl) ?_
        refine nc_ald cx hw (by decide) (lNC_m_ways_L h0) ij4 ej4 ((lNC_m_ways_E h0 j4 lj4)).1 (lWay_is ((lNC_m_ways_E h0 j4 lj4)).2) dX2_somebodyComesBy_38 ?_
        refine gr_X2_99 cx hw (lWay_is ((lNC_m_ways_E h0 j4 lj4)).2) (lWay_minute ((lNC_m_ways_E h0 j4 lj4)).2) (lWay_minute_L ((lNC_m_ways_E h0 j4 lj4)).2) dX2_somebodyComesBy_39 ?_
        refine lv_iload hx hb dX2_somebodyComesBy_42 (lv_at hl 0 rfl) ?_
        obtain ⟨j8, ej8, ij8, lj8, hf⟩ := nc_ix hf
        refine nc_ild cx hw (lWay_minute_L ((lNC_m_ways_E h0 j4 lj4)).2) ij8 ej8 dX2_somebodyComesBy_44 ?_
        obtain ⟨q9, hq9, hf⟩ := nc_bi hf
        refine nc_callVi cx hw lk_X2_102 (c_X2_lets l h0 mi x1 a1 (mi (o + 59 + 3 * j4 + 2) j8) q9 hq9) (ci := 2) rfl (lNC_mind_L h0) rfl hl.1 rfl (Nat.le_of_ble_eq_true rfl) ⟨rfl, rfl, Nat.le_of_ble_eq_true rfl, Nat.le_of_ble_eq_true rfl⟩ dX2_somebodyComesBy_45 (fun H locs hw => ?_)
        refine lv_if_eq (tgt := 53) hx hb dX2_somebodyComesBy_48 (by decide) (fun c10 => ?_) (fun c10 => ?_)
        · have hf := nc_ifp hf c10
          obtain ⟨x11, ex11⟩ : ∃ y : Int32, y = x1 + 1 := ⟨_, rfl⟩
          have hf := nc_let_at hf ex11
          refine lv_iinc (v := x11) (lv' := [(3, .int x11), (4, .int q5), (0, .ref (o + 55)), (1, .int a1), (2, .int a2)]) hx hb dX2_somebodyComesBy_53 hl (k := 4) rfl (by rw [ex11]; rfl) (by decide) rfl (fun ls hl => ?_)
          refine lv_goto (tgt := 2) hx hb dX2_somebodyComesBy_56 (by decide) ?_
          exact ihrc2 _ hf _ _ _ hw (lv_sub hl [2, 3, 4, 0] rfl)
        · have hf := nc_ifn hf c10
          refine lv_iconst (v := 1) hx hb dX2_somebodyComesBy_51 (by decide) ?_
          exact nc_rpp hret hf rfl hw dX2_somebodyComesBy_52
abbrev rm_X7_why : Room := { frames := 6, cells := 0, slots := 0, locals := 141 }
set_option maxRecDepth 100000 in
set_option maxHeartbeats 4000000 in
theorem c_X7_why (l : Launch) {G : nc_G} {K : nc_K} {o : Nat} (h0 : nc_LNC G K o) (mi : nc_Mem) (a1 : Int32) (res : nc_Mem × Int32) (hf : f_X7_why mi o a1 = some res) : nc_M l yX7_why cX7_why 2 (some .int) rm_X7_why 0 0 G K K [.ref o, .int a1] mi res.1 (some (.int res.2)) := by
  refine nc_meet_i (by decide) (Nat.le_of_ble_eq_true rfl) ?_
  intro p e s m args below meth c Q H locs ls cx hret hw hl
  have cx : nc_C p s m args c cX7_why 2 RX7 G := cx
  have hl : lv_has ls 2 [(0, .ref o), (1, .int a1)] := hl
  have hx := cx.1
  have hb := cx.2.1
  unfold f_X7_why at hf
  refine lv_aload_n hx hb dX7_why_0 rfl (lv_at hl 0 rfl) ?_
  refine gr_X7_10 cx hw (lNC_is h0) (lNC_now h0) (lTown_is (lNC_now_L h0)) dX7_why_1 ?_
  refine lv_iload_n hx hb dX7_why_4 rfl (lv_at hl 1 rfl) ?_
  refine nc_callVi cx hw lk_X7_101 (c_X5_isThing l (lNC_now_L h0) mi a1 _ rfl) (ci := 5) rfl (lTown_is (lNC_now_L h0)) rfl hl.1 rfl (Nat.le_of_ble_eq_true rfl) ⟨rfl, rfl, Nat.le_of_ble_eq_true rfl, Nat.le_of_ble_eq_true rfl⟩ dX7_why_5 (fun H locs hw => ?_)
  refine lv_if_ne (tgt := 17) hx hb dX7_why_8 (by decide) (fun c1 => ?_) (fun c1 => ?_)
  · have hf := nc_ifn hf c1
    refine lv_aload_n hx hb dX7_why_17 rfl (lv_at hl 0 rfl) ?_
    refine gr_X7_34 cx hw (lNC_is h0) (lNC_mind h0) (lNC_mind_L h0) dX7_why_18 ?_
    obtain ⟨q2, hq2, hf⟩ := nc_bi hf
    refine nc_callVv cx hw lk_X7_155 (c_X2_recall l h0 mi  q2 hq2) (ci := 2) rfl (lNC_mind_L h0) rfl hl.1 rfl (Nat.le_of_ble_eq_true rfl) ⟨rfl, rfl, Nat.le_of_ble_eq_true rfl, Nat.le_of_ble_eq_true rfl⟩ dX7_why_21 (fun H locs hw => ?_)
    refine lv_aload_n hx hb dX7_why_24 rfl (lv_at hl 0 rfl) ?_
    refine gr_X7_34 cx hw (lNC_is h0) (lNC_mind h0) (lNC_mind_L h0) dX7_why_25 ?_
    refine lv_iload_n hx hb dX7_why_28 rfl (lv_at hl 1 rfl) ?_
    obtain ⟨q3, hq3, hf⟩ := nc_bi hf
    refine nc_callVi cx hw lk_X7_158 (c_X2_soonestOf l h0 q2 a1 q3 hq3) (ci := 2) rfl (lNC_mind_L h0) rfl hl.1 rfl (Nat.le_of_ble_eq_true rfl) ⟨rfl, rfl, Nat.le_of_ble_eq_true rfl, Nat.le_of_ble_eq_true rfl⟩ dX7_why_29 (fun H locs hw => ?_)
    refine lv_bipush (v := (-9)) hx hb dX7_why_32 (by decide) ?_
    refine lv_icmp_eq (tgt := 39) hx hb dX7_why_34 (by decide) (fun c4 => ?_) (fun c4 => ?_)
    · have hf := nc_ifp hf c4
      refine lv_aload_n hx hb dX7_why_39 rfl (lv_at hl 0 rfl) ?_
      refine gr_X7_34 cx hw (lNC_is h0) (lNC_mind h0) (lNC_mind_L h0) dX7_why_40 ?_
      refine lv_iload_n hx hb dX7_why_43 rfl (lv_at hl 1 rfl) ?_
      refine lv_aload_n hx hb dX7_why_44 rfl (lv_at hl 0 rfl) ?_
      refine gr_X7_10 cx hw (lNC_is h0) (lNC_now h0) (lTown_is (lNC_now_L h0)) dX7_why_45 ?_
      refine gr_X7_104 cx hw (lTown_is (lNC_now_L h0)) (lTown_goods (lNC_now_L h0)) (lTown_goods_L (lNC_now_L h0)) dX7_why_48 ?_
      refine lv_iload_n hx hb dX7_why_51 rfl (lv_at hl 1 rfl) ?_
      obtain ⟨j5, ej5, ij5, lj5, hf⟩ := nc_ix hf
      refine nc_ald cx hw (by decide) (lTown_goods_L (lNC_now_L h0)) ij5 ej5 ((lTown_goods_E (lNC_now_L h0) j5 lj5)).1 (lThing_is ((lTown_goods_E (lNC_now_L h0) j5 lj5)).2) dX7_why_52 ?_
      refine gi_X7_174 cx hw (lThing_is ((lTown_goods_E (lNC_now_L h0) j5 lj5)).2) dX7_why_53 ?_
      obtain ⟨q6, hq6, hf⟩ := nc_bi hf
      refine nc_callVi cx hw lk_X7_177 (c_X2_somebodyComesBy l h0 q3.1 a1 (q3.1 (o + 1 + 11 + j5) 2) q6 hq6) (ci := 2) rfl (lNC_mind_L h0) rfl hl.1 rfl (Nat.le_of_ble_eq_true rfl) ⟨rfl, rfl, Nat.le_of_ble_eq_true rfl, Nat.le_of_ble_eq_true rfl⟩ dX7_why_56 (fun H locs hw => ?_)
      refine lv_if_ne (tgt := 64) hx hb dX7_why_59 (by decide) (fun c7 => ?_) (fun c7 => ?_)
      · have hf := nc_ifn hf c7
        refine lv_aload_n hx hb dX7_why_64 rfl (lv_at hl 0 rfl) ?_
        refine gr_X7_34 cx hw (lNC_is h0) (lNC_mind h0) (lNC_mind_L h0) dX7_why_65 ?_
        refine lv_iload_n hx hb dX7_why_68 rfl (lv_at hl 1 rfl) ?_
        refine lv_aload_n hx hb dX7_why_69 rfl (lv_at hl 0 rfl) ?_
        refine gr_X7_10 cx hw (lNC_is h0) (lNC_now h0) (lTown_is (lNC_now_L h0)) dX7_why_70 ?_
        refine gr_X7_104 cx hw (lTown_is (lNC_now_L h0)) (lTown_goods (lNC_now_L h0)) (lTown_goods_L (lNC_now_L h0)) dX7_why_73 ?_
        refine lv_iload_n hx hb dX7_why_76 rfl (lv_at hl 1 rfl) ?_
        refine nc_ald cx hw (by decide) (lTown_goods_L (lNC_now_L h0)) ij5 ej5 ((lTown_goods_E (lNC_now_L h0) j5 lj5)).1 (lThing_is ((lTown_goods_E (lNC_now_L h0) j5 lj5)).2) dX7_why_77 ?_
        refine gi_X7_146 cx hw (lThing_is ((lTown_goods_E (lNC_now_L h0) j5 lj5)).2) dX7_why_78 ?_
        obtain ⟨q8, hq8, hf⟩ := nc_bi hf
        refine nc_callVi cx hw lk_X7_177 (c_X2_somebodyComesBy l h0 q3.1 a1 (q3.1 (o + 1 + 11 + j5) 3) q8 hq8) (ci := 2) rfl (lNC_mind_L h0) rfl hl.1 rfl (Nat.le_of_ble_eq_true rfl) ⟨rfl, rfl, Nat.le_of_ble_eq_true rfl, Nat.le_of_ble_eq_true rfl⟩ dX7_why_81 (fun H locs hw => ?_)
        refine lv_if_eq (tgt := 91) hx hb dX7_why_84 (by decide) (fun c9 => ?_) (fun c9 => ?_)
        · have hf := nc_ifp hf c9
          refine lv_iconst (v := 2) hx hb dX7_why_91 (by decide) ?_
          exact nc_rpm hret hf rfl hw dX7_why_92
        · have hf := nc_ifn hf c9
          refine lv_iconst (v := 4) hx hb dX7_why_87 (by decide) ?_
          refine lv_goto (tgt := 92) hx hb dX7_why_88 (by decide) ?_
          exact nc_rpm hret hf rfl hw dX7_why_92
      · have hf := nc_ifp hf c7
        refine lv_iconst (v := 1) hx hb dX7_why_62 (by decide) ?_
        exact nc_rpm hret hf rfl hw dX7_why_63
    · have hf := nc_ifn hf c4
      refine lv_iconst (v := 0) hx hb dX7_why_37 (by decide) ?_
      exact nc_rpm hret hf rfl hw dX7_why_38
  · have hf := nc_ifp hf c1
    refine lv_aload_n hx hb dX7_why_11 rfl (lv_at hl 0 rfl) ?_
    refine lv_iconst (v := (-1)) hx hb dX7_why_12 (by decide) ?_
    obtain ⟨q10, hq10, hf⟩ := nc_bi hf
    refine nc_callVi cx hw lk_X7_60 (c_X7_refuse l h0 mi (-1) q10 hq10) (ci := 7) rfl (lNC_is h0) rfl hl.1 rfl (Nat.le_of_ble_eq_true rfl) ⟨rfl, rfl, Nat.le_of_ble_eq_true rfl, Nat.le_of_ble_eq_true rfl⟩ dX7_why_13 (fun H locs hw => ?_)
    exact nc_rpm hret hf rfl hw dX7_why_16
abbrev rm_X5_roundMinute : Room := { frames := 2, cells := 0, slots := 0, locals := 43 }
set_option maxRecDepth 100000 in
set_option maxHeartbeats 4000000 in
theorem c_X5_roundMinute (l : Launch) {G : nc_G} {K : nc_K} {o : Nat} (h0 : nc_LTown G K o) (mi : nc_Mem) (a1 a2 : Int32) (res : Int32) (hf : f_X5_roundMinute mi o a1 a2 = some res) : nc_M l yX5_roundMinute cX5_roundMinute 9 (some .int) rm_X5_roundMinute 0 0 G K K [.ref o, .int a1, .int a2] mi mi (some (.int res)) := by
  refine nc_meet_i (by decide) (Nat.le_of_ble_eq_true rfl) ?_
  intro p e s m args below meth c Q H locs ls cx hret hw hl
  have cx : nc_C p s m args c cX5_roundMinute 9 RX5 G := cx
  have hl : lv_has ls 9 [(0, .ref o), (1, .int a1), (2, .int a2)] := hl
  have hx := cx.1
  have hb := cx.2.1
  unfold f_X5_roundMinute at hf
  refine lv_aload_n hx hb dX5_roundMinute_0 rfl (lv_at hl 0 rfl) ?_
  refine gr_X5_11 cx hw (lTown_is h0) (lTown_people h0) (lTown_people_L h0) dX5_roundMinute_1 ?_
  refine lv_iload_n hx hb dX5_roundMinute_4 rfl (lv_at hl 1 rfl) ?_
  obtain ⟨j1, ej1, ij1, lj1, hf⟩ := nc_ix hf
  refine nc_ald cx hw (by decide) (lTown_people_L h0) ij1 ej1 ((lTown_people_E h0 j1 lj1)).1 (lPerson_is ((lTown_people_E h0 j1 lj1)).2) dX5_roundMinute_5 ?_
  refine lv_astore_n (lv' := [(3, .ref (o + 5 + j1)), (0, .ref o), (1, .int a1), (2, .int a2)]) hx hb dX5_roundMinute_6 rfl hl (by decide) rfl (fun ls hl => ?_)
  refine lv_aload_n hx hb dX5_roundMinute_7 rfl (lv_at hl 1 rfl) ?_
  refine gr_X5_19 cx hw (lTown_is h0) (lTown_goods h0) (lTown_goods_L h0) dX5_roundMinute_8 ?_
  refine lv_iload_n hx hb dX5_roundMinute_11 rfl (lv_at hl 3 rfl) ?_
  obtain ⟨j2, ej2, ij2, lj2, hf⟩ := nc_ix hf
  refine nc_ald cx hw (by decide) (lTown_goods_L h0) ij2 ej2 ((lTown_goods_E h0 j2 lj2)).1 (lThing_is ((lTown_goods_E h0 j2 lj2)).2) dX5_roundMinute_12 ?_
  refine lv_astore (lv' := [(4, .ref (o + 11 + j2)), (3, .ref (o + 5 + j1)), (0, .ref o), (1, .int a1), (2, .int a2)]) hx hb dX5_roundMinute_13 hl (by decide) rfl (fun ls hl => ?_)
  refine lv_aload_n hx hb dX5_roundMinute_15 rfl (lv_at hl 2 rfl) ?_
  refine lv_aload_n hx hb dX5_roundMinute_16 rfl (lv_at hl 1 rfl) ?_
  refine gi_X5_89 cx hw (lPerson_is ((lTown_people_E h0 j1 lj1)).2) dX5_roundMinute_17 ?_
  refine lv_aload hx hb dX5_roundMinute_20 (lv_at hl 0 rfl) ?_
  refine gi_X5_95 cx hw (lThing_is ((lTown_goods_E h0 j2 lj2)).2) dX5_roundMinute_22 ?_
  obtain ⟨q3, hq3, hf⟩ := nc_bi hf
  refine nc_callVi cx hw lk_X5_161 (c_X5_leastBetween l h0 mi (mi (o + 5 + j1) 0) (mi (o + 11 + j2) 2) q3 hq3) (ci := 5) rfl (lTown_is h0) rfl hl.1 rfl (Nat.le_of_ble_eq_true rfl) ⟨rfl, rfl, Nat.le_of_ble_eq_true rfl, Nat.le_of_ble_eq_true rfl⟩ dX5_roundMinute_25 (fun H locs hw => ?_)
  refine lv_istore (lv' := [(5, .int q3), (4, .ref (o + 11 + j2)), (3, .ref (o + 5 + j1)), (0, .ref o), (1, .int a1), (2, .int a2)]) hx hb dX5_roundMinute_28 hl (by decide) rfl (fun ls hl => ?_)
  refine lv_aload_n hx hb dX5_roundMinute_30 rfl (lv_at hl 3 rfl) ?_
  refine lv_aload hx hb dX5_roundMinute_31 (lv_at hl 1 rfl) ?_
  refine gi_X5_95 cx hw (lThing_is ((lTown_goods_E h0 j2 lj2)).2) dX5_roundMinute_33 ?_
  refine lv_aload hx hb dX5_roundMinute_36 (lv_at hl 1 rfl) ?_
  refine gi_X5_96 cx hw (lThing_is ((lTown_goods_E h0 j2 lj2)).2) dX5_roundMinute_38 ?_
  obtain ⟨q4, hq4, hf⟩ := nc_bi hf
  refine nc_callVi cx hw lk_X5_161 (c_X5_leastBetween l h0 mi (mi (o + 11 + j2) 2) (mi (o + 11 + j2) 3) q4 hq4) (ci := 5) rfl (lTown_is h0) rfl hl.1 rfl (Nat.le_of_ble_eq_true rfl) ⟨rfl, rfl, Nat.le_of_ble_eq_true rfl, Nat.le_of_ble_eq_true rfl⟩ dX5_roundMinute_41 (fun H locs hw => ?_)
  refine lv_istore (lv' := [(6, .int q4), (5, .int q3), (4, .ref (o + 11 + j2)), (3, .ref (o + 5 + j1)), (0, .ref o), (1, .int a1), (2, .int a2)]) hx hb dX5_roundMinute_44 hl (by decide) rfl (fun ls hl => ?_)
  refine lv_iload hx hb dX5_roundMinute_46 (lv_at hl 1 rfl) ?_
  refine nc_ldc (v := 1000000) cx kc_X5_139 dX5_roundMinute_48 ?_
  refine lv_icmp_ge (tgt := 78) hx hb dX5_roundMinute_50 (by decide) (fun c5 => ?_) (fun c5 => ?_)
  · have hf := nc_ifp hf c5
    refine lv_bipush (v := (-9)) hx hb dX5_roundMinute_78 (by decide) ?_
    exact nc_rpp hret hf rfl hw dX5_roundMinute_80
  · have hf := nc_ifn hf c5
    refine lv_iload hx hb dX5_roundMinute_53 (lv_at hl 0 rfl) ?_
    refine nc_ldc (v := 1000000) cx kc_X5_139 dX5_roundMinute_55 ?_
    refine lv_icmp_ge (tgt := 78) hx hb dX5_roundMinute_57 (by decide) (fun c6 => ?_) (fun c6 => ?_)
    · have hf := nc_ifp hf c6
      refine lv_bipush (v := (-9)) hx hb dX5_roundMinute_78 (by decide) ?_
      exact nc_rpp hret hf rfl hw dX5_roundMinute_80
    · have hf := nc_ifn hf c6
      refine lv_aload_n hx hb dX5_roundMinute_60 rfl (lv_at hl 4 rfl) ?_
      refine lv_aload hx hb dX5_roundMinute_61 (lv_at hl 2 rfl) ?_
      refine gi_X5_96 cx hw (lThing_is ((lTown_goods_E h0 j2 lj2)).2) dX5_roundMinute_63 ?_
      refine lv_aload_n hx hb dX5_roundMinute_66 rfl (lv_at hl 3 rfl) ?_
      refine gi_X5_92 cx hw (lPerson_is ((lTown_people_E h0 j1 lj1)).2) dX5_roundMinute_67 ?_
      obtain ⟨q7, hq7, hf⟩ := nc_bi hf
      refine nc_callVi cx hw lk_X5_161 (c_X5_leastBetween l h0 mi (mi (o + 11 + j2) 3) (mi (o + 5 + j1) 1) q7 hq7) (ci := 5) rfl (lTown_is h0) rfl hl.1 rfl (Nat.le_of_ble_eq_true rfl) ⟨rfl, rfl, Nat.le_of_ble_eq_true rfl, Nat.le_of_ble_eq_true rfl⟩ dX5_roundMinute_70 (fun H locs hw => ?_)
      refine nc_ldc (v := 1000000) cx kc_X5_139 dX5_roundMinute_73 ?_
      refine lv_icmp_lt (tgt := 81) hx hb dX5_roundMinute_75 (by decide) (fun c8 => ?_) (fun c8 => ?_)
      · have hf := nc_ifp hf c8
        refine lv_aload_n hx hb dX5_roundMinute_81 rfl (lv_at hl 3 rfl) ?_
        refine gi_X5_103 cx hw (lPerson_is ((lTown_people_E h0 j1 lj1)).2) dX5_roundMinute_82 ?_
        refine lv_iload hx hb dX5_roundMinute_85 (lv_at hl 1 rfl) ?_
        refine lv_iadd hx hb dX5_roundMinute_87 ?_
        refine lv_topi (fun x9 ex9 => ?_)
        have hf := nc_let_at hf ex9
        refine lv_istore (lv' := [(7, .int x9), (6, .int q4), (5, .int q3), (4, .ref (o + 11 + j2)), (3, .ref (o + 5 + j1)), (0, .ref o), (1, .int a1), (2, .int a2)]) hx hb dX5_roundMinute_88 hl (by decide) rfl (fun ls hl => ?_)
        refine lv_aload_n hx hb dX5_roundMinute_90 rfl (lv_at hl 5 rfl) ?_
        refine lv_iload_n hx hb dX5_roundMinute_91 rfl (lv_at hl 6 rfl) ?_
        refine lv_iload_n hx hb dX5_roundMinute_92 rfl (lv_at hl 7 rfl) ?_
        obtain ⟨q10, hq10, hf⟩ := nc_bi hf
        refine nc_callVi cx hw lk_X5_143 (c_X5_fits l h0 mi a1 a2 q10 hq10) (ci := 5) rfl (lTown_is h0) rfl hl.1 rfl (Nat.le_of_ble_eq_true rfl) ⟨rfl, rfl, Nat.le_of_ble_eq_true rfl, Nat.le_of_ble_eq_true rfl⟩ dX5_roundMinute_93 (fun H locs hw => ?_)
        refine lv_if_eq (tgt := 116) hx hb dX5_roundMinute_96 (by decide) (fun c11 => ?_) (fun c11 => ?_)
        · have hf := nc_ifp hf c11
          refine lv_bipush (v := (-9)) hx hb dX5_roundMinute_116 (by decide) ?_
          exact nc_rpp hret hf rfl hw dX5_roundMinute_118
        · have hf := nc_ifn hf c11
          refine lv_aload_n hx hb dX5_roundMinute_99 rfl (lv_at hl 5 rfl) ?_
          refine lv_aload_n hx hb dX5_roundMinute_100 rfl (lv_at hl 5 rfl) ?_
          refine gi_X5_58 cx hw (lTown_is h0) dX5_roundMinute_101 ?_
          refine lv_iload_n hx hb dX5_roundMinute_104 rfl (lv_at hl 6 rfl) ?_
          refine lv_iload_n hx hb dX5_roundMinute_105 rfl (lv_at hl 7 rfl) ?_
          refine lv_iload hx hb dX5_roundMinute_106 (lv_at hl 0 rfl) ?_
          refine lv_bipush (v := (-9)) hx hb dX5_roundMinute_108 (by decide) ?_
          obtain ⟨q12, hq12, hf⟩ := nc_bi hf
          refine nc_callVi cx hw lk_X5_147 (c_X5_lawLets l h0 mi (mi o 7) a1 a2 x9 (-9) q12 hq12) (ci := 5) rfl (lTown_is h0) rfl hl.1 rfl (Nat.le_of_ble_eq_true rfl) ⟨rfl, rfl, Nat.le_of_ble_eq_true rfl, Nat.le_of_ble_eq_true rfl⟩ dX5_roundMinute_110 (fun H locs hw => ?_)
          refine lv_if_ne (tgt := 119) hx hb dX5_roundMinute_113 (by decide) (fun c13 => ?_) (fun c13 => ?_)
          · have hf := nc_ifn hf c13
            refine lv_iload hx hb dX5_roundMinute_119 (lv_at hl 0 rfl) ?_
            refine lv_iload hx hb dX5_roundMinute_121 (lv_at hl 1 rfl) ?_
            refine lv_iadd hx hb dX5_roundMinute_123 ?_
            refine lv_topi (fun x14 ex14 => ?_)
            have hf := nc_let_at hf ex14
            refine lv_istore (lv' := [(8, .int x14), (7, .int x9), (6, .int q4), (5, .int q3), (4, .ref (o + 11 + j2)), (3, .ref (o + 5 + j1)), (0, .ref o), (1, .int a1), (2, .int a2)]) hx hb dX5_roundMinute_124 hl (by decide) rfl (fun ls hl => ?_)
            refine lv_iload hx hb dX5_roundMinute_126 (lv_at hl 0 rfl) ?_
            refine lv_aload hx hb dX5_roundMinute_128 (lv_at hl 4 rfl) ?_
            refine gi_X5_127 cx hw (lThing_is ((lTown_goods_E h0 j2 lj2)).2) dX5_roundMinute_130 ?_
            refine lv_icmp_le (tgt := 141) hx hb dX5_roundMinute_133 (by decide) (fun c15 => ?_) (fun c15 => ?_)
            · have hf := nc_ifp hf c15
              refine lv_iload hx hb dX5_roundMinute_141 (lv_at hl 0 rfl) ?_
              exact nc_rpp hret hf rfl hw dX5_roundMinute_143
            · have hf := nc_ifn hf c15
              refine lv_bipush (v := (-9)) hx hb dX5_roundMinute_136 (by decide) ?_
              refine lv_goto (tgt := 143) hx hb dX5_roundMinute_138 (by decide) ?_
              exact nc_rpp hret hf rfl hw dX5_roundMinute_143
          · have hf := nc_ifp hf c13
            refine lv_bipush (v := (-9)) hx hb dX5_roundMinute_116 (by decide) ?_
            exact nc_rpp hret hf rfl hw dX5_roundMinute_118
      · have hf := nc_ifn hf c8
        refine lv_bipush (v := (-9)) hx hb dX5_roundMinute_78 (by decide) ?_
        exact nc_rpp hret hf rfl hw dX5_roundMinute_80
abbrev rm_X5_roundMore : Room := { frames := 2, cells := 0, slots := 0, locals := 43 }
set_option maxRecDepth 100000 in
set_option maxHeartbeats 4000000 in
theorem c_X5_roundMore (l : Launch) {G : nc_G} {K : nc_K} {o : Nat} (h0 : nc_LTown G K o) (mi : nc_Mem) (a1 a2 : Int32) (res : Int32) (hf : f_X5_roundMore mi o a1 a2 = some res) : nc_M l yX5_roundMore cX5_roundMore 5 (some .int) rm_X5_roundMore 0 0 G K K [.ref o, .int a1, .int a2] mi mi (some (.int res)) := by
  refine nc_meet_i (by decide) (Nat.le_of_ble_eq_true rfl) ?_
  intro p e s m args below meth c Q H locs ls cx hret hw hl
  have cx : nc_C p s m args c cX5_roundMore 5 RX5 G := cx
  have hl : lv_has ls 5 [(0, .ref o), (1, .int a1), (2, .int a2)] := hl
  have hx := cx.1
  have hb := cx.2.1
  unfold f_X5_roundMore at hf
  refine lv_aload_n hx hb dX5_roundMore_0 rfl (lv_at hl 0 rfl) ?_
  refine gr_X5_11 cx hw (lTown_is h0) (lTown_people h0) (lTown_people_L h0) dX5_roundMore_1 ?_
  refine lv_iload_n hx hb dX5_roundMore_4 rfl (lv_at hl 1 rfl) ?_
  obtain ⟨j1, ej1, ij1, lj1, hf⟩ := nc_ix hf
  refine nc_ald cx hw (by decide) (lTown_people_L h0) ij1 ej1 ((lTown_people_E h0 j1 lj1)).1 (lPerson_is ((lTown_people_E h0 j1 lj1)).2) dX5_roundMore_5 ?_
  refine lv_astore_n (lv' := [(3, .ref (o + 5 + j1)), (0, .ref o), (1, .int a1), (2, .int a2)]) hx hb dX5_roundMore_6 rfl hl (by decide) rfl (fun ls hl => ?_)
  refine lv_aload_n hx hb dX5_roundMore_7 rfl (lv_at hl 1 rfl) ?_
  refine gr_X5_19 cx hw (lTown_is h0) (lTown_goods h0) (lTown_goods_L h0) dX5_roundMore_8 ?_
  refine lv_iload_n hx hb dX5_roundMore_11 rfl (lv_at hl 3 rfl) ?_
  obtain ⟨j2, ej2, ij2, lj2, hf⟩ := nc_ix hf
  refine nc_ald cx hw (by decide) (lTown_goods_L h0) ij2 ej2 ((lTown_goods_E h0 j2 lj2)).1 (lThing_is ((lTown_goods_E h0 j2 lj2)).2) dX5_roundMore_12 ?_
  refine lv_astore (lv' := [(4, .ref (o + 11 + j2)), (3, .ref (o + 5 + j1)), (0, .ref o), (1, .int a1), (2, .int a2)]) hx hb dX5_roundMore_13 hl (by decide) rfl (fun ls hl => ?_)
  refine lv_aload_n hx hb dX5_roundMore_15 rfl (lv_at hl 2 rfl) ?_
  refine lv_aload_n hx hb dX5_roundMore_16 rfl (lv_at hl 1 rfl) ?_
  refine gi_X5_89 cx hw (lPerson_is ((lTown_people_E h0 j1 lj1)).2) dX5_roundMore_17 ?_
  refine lv_aload hx hb dX5_roundMore_20 (lv_at hl 0 rfl) ?_
  refine gi_X5_95 cx hw (lThing_is ((lTown_goods_E h0 j2 lj2)).2) dX5_roundMore_22 ?_
  obtain ⟨q3, hq3, hf⟩ := nc_bi hf
  refine nc_callVi cx hw lk_X5_161 (c_X5_leastBetween l h0 mi (mi (o + 5 + j1) 0) (mi (o + 11 + j2) 2) q3 hq3) (ci := 5) rfl (lTown_is h0) rfl hl.1 rfl (Nat.le_of_ble_eq_true rfl) ⟨rfl, rfl, Nat.le_of_ble_eq_true rfl, Nat.le_of_ble_eq_true rfl⟩ dX5_roundMore_25 (fun H locs hw => ?_)
  refine lv_aload_n hx hb dX5_roundMore_28 rfl (lv_at hl 2 rfl) ?_
  refine lv_aload hx hb dX5_roundMore_29 (lv_at hl 0 rfl) ?_
  refine gi_X5_95 cx hw (lThing_is ((lTown_goods_E h0 j2 lj2)).2) dX5_roundMore_31 ?_
  refine lv_aload hx hb dX5_roundMore_34 (lv_at hl 0 rfl) ?_
  refine gi_X5_96 cx hw (lThing_is ((lTown_goods_E h0 j2 lj2)).2) dX5_roundMore_36 ?_
  obtain ⟨q4, hq4, hf⟩ := nc_bi hf
  refine nc_callVi cx hw lk_X5_161 (c_X5_leastBetween l h0 mi (mi (o + 11 + j2) 2) (mi (o + 11 + j2) 3) q4 hq4) (ci := 5) rfl (lTown_is h0) rfl hl.1 rfl (Nat.le_of_ble_eq_true rfl) ⟨rfl, rfl, Nat.le_of_ble_eq_true rfl, Nat.le_of_ble_eq_true rfl⟩ dX5_roundMore_39 (fun H locs hw => ?_)
  refine lv_iadd hx hb dX5_roundMore_42 ?_
  refine lv_aload_n hx hb dX5_roundMore_43 rfl (lv_at hl 2 rfl) ?_
  refine lv_aload hx hb dX5_roundMore_44 (lv_at hl 0 rfl) ?_
  refine gi_X5_96 cx hw (lThing_is ((lTown_goods_E h0 j2 lj2)).2) dX5_roundMore_46 ?_
  refine lv_aload_n hx hb dX5_roundMore_49 rfl (lv_at hl 1 rfl) ?_
  refine gi_X5_92 cx hw (lPerson_is ((lTown_people_E h0 j1 lj1)).2) dX5_roundMore_50 ?_
  obtain ⟨q5, hq5, hf⟩ := nc_bi hf
  refine nc_callVi cx hw lk_X5_161 (c_X5_leastBetween l h0 mi (mi (o + 11 + j2) 3) (mi (o + 5 + j1) 1) q5 hq5) (ci := 5) rfl (lTown_is h0) rfl hl.1 rfl (Nat.le_of_ble_eq_true rfl) ⟨rfl, rfl, Nat.le_of_ble_eq_true rfl, Nat.le_of_ble_eq_true rfl⟩ dX5_roundMore_53 (fun H locs hw => ?_)
  refine lv_iadd hx hb dX5_roundMore_56 ?_
  refine lv_aload_n hx hb dX5_roundMore_57 rfl (lv_at hl 2 rfl) ?_
  refine lv_aload_n hx hb dX5_roundMore_58 rfl (lv_at hl 1 rfl) ?_
  refine gi_X5_89 cx hw (lPerson_is ((lTown_people_E h0 j1 lj1)).2) dX5_roundMore_59 ?_
  refine lv_aload_n hx hb dX5_roundMore_62 rfl (lv_at hl 1 rfl) ?_
  refine gi_X5_92 cx hw (lPerson_is ((lTown_people_E h0 j1 lj1)).2) dX5_roundMore_63 ?_
  obtain ⟨q6, hq6, hf⟩ := nc_bi hf
  refine nc_callVi cx hw lk_X5_161 (c_X5_leastBetween l h0 mi (mi (o + 5 + j1) 0) (mi (o + 5 + j1) 1) q6 hq6) (ci := 5) rfl (lTown_is h0) rfl hl.1 rfl (Nat.le_of_ble_eq_true rfl) ⟨rfl, rfl, Nat.le_of_ble_eq_true rfl, Nat.le_of_ble_eq_true rfl⟩ dX5_roundMore_66 (fun H locs hw => ?_)
  refine lv_isub hx hb dX5_roundMore_69 ?_
  exact nc_rpp hret hf rfl hw dX5_roundMore_70
abbrev rm_X7_round : Room := { frames := 3, cells := 0, slots := 0, locals := 71 }
set_option maxRecDepth 100000 in
set_option maxHeartbeats 4000000 in
theorem c_X7_round (l : Launch) {G : nc_G} {K : nc_K} {o : Nat} (h0 : nc_LNC G K o) (mi : nc_Mem) (a1 a2 a3 : Int32) (res : nc_Mem × Int32) (hf : f_X7_round mi o a1 a2 a3 = some res) : nc_M l yX7_round cX7_round 5 (some .int) rm_X7_round 0 0 G K K [.ref o, .int a1, .int a2, .int a3] mi res.1 (some (.int res.2)) := by
  refine nc_meet_i (by decide) (Nat.le_of_ble_eq_true rfl) ?_
  intro p e s m args below meth c Q H locs ls cx hret hw hl
  have cx : nc_C p s m args c cX7_round 5 RX7 G := cx
  have hl : lv_has ls 5 [(0, .ref o), (1, .int a1), (2, .int a2), (3, .int a3)] := hl
  have hx := cx.1
  have hb := cx.2.1
  unfold f_X7_round at hf
  refine lv_aload_n hx hb dX7_round_0 rfl (lv_at hl 0 rfl) ?_
  refine gr_X7_10 cx hw (lNC_is h0) (lNC_now h0) (lTown_is (lNC_now_L h0)) dX7_round_1 ?_
  refine lv_iload_n hx hb dX7_round_4 rfl (lv_at hl 1 rfl) ?_
  refine nc_callVi cx hw lk_X7_86 (c_X5_isPerson l (lNC_now_L h0) mi a1 _ rfl) (ci := 5) rfl (lTown_is (lNC_now_L h0)) rfl hl.1 rfl (Nat.le_of_ble_eq_true rfl) ⟨rfl, rfl, Nat.le_of_ble_eq_true rfl, Nat.le_of_ble_eq_true rfl⟩ dX7_round_5 (fun H locs hw => ?_)
  obtain ⟨k1, ek1, hf⟩ := nc_jn_of hf
  have hk1 : k1 = some res → ∀ (H : Heap) (locs : List Loc) (ls : Array Slot), nc_W G K mi H locs → lv_has ls 5 [(0, .ref o)] → W p l e rm_X7_round s m args below meth c H locs 0 0 Q (F0 m 22 ls []) := by
    intro hf H locs ls hw hl
    have hf := (ek1).symm.trans hf
    refine lv_aload_n hx hb dX7_round_22 rfl (lv_at hl 0 rfl) ?_
    refine lv_iconst (v := (-1)) hx hb dX7_round_23 (by decide) ?_
    obtain ⟨q2, hq2, hf⟩ := nc_bi hf
    refine nc_callVi cx hw lk_X7_60 (c_X7_refuse l h0 mi (-1) q2 hq2) (ci := 7) rfl (lNC_is h0) rfl hl.1 rfl (Nat.le_of_ble_eq_true rfl) ⟨rfl, rfl, Nat.le_of_ble_eq_true rfl, Nat.le_of_ble_eq_true rfl⟩ dX7_round_24 (fun H locs hw => ?_)
    exact nc_rpm hret hf rfl hw dX7_round_27
  refine lv_if_eq (tgt := 22) hx hb dX7_round_8 (by decide) (fun c3 => ?_) (fun c3 => ?_)
  · have hf := nc_ifp hf c3
    exact hk1 hf _ _ _ hw (lv_sub hl [0] rfl)
  · have hf := nc_ifn hf c3
    refine lv_aload_n hx hb dX7_round_11 rfl (lv_at hl 0 rfl) ?_
    refine gr_X7_10 cx hw (lNC_is h0) (lNC_now h0) (lTown_is (lNC_now_L h0)) dX7_round_12 ?_
    refine lv_iload_n hx hb dX7_round_15 rfl (lv_at hl 2 rfl) ?_
    refine nc_callVi cx hw lk_X7_101 (c_X5_isThing l (lNC_now_L h0) mi a2 _ rfl) (ci := 5) rfl (lTown_is (lNC_now_L h0)) rfl hl.1 rfl (Nat.le_of_ble_eq_true rfl) ⟨rfl, rfl, Nat.le_of_ble_eq_true rfl, Nat.le_of_ble_eq_true rfl⟩ dX7_round_16 (fun H locs hw => ?_)
    refine lv_if_ne (tgt := 28) hx hb dX7_round_19 (by decide) (fun c4 => ?_) (fun c4 => ?_)
    · have hf := nc_ifn hf c4
      refine lv_iload_n hx hb dX7_round_28 rfl (lv_at hl 3 rfl) ?_
      obtain ⟨k5, ek5, hf⟩ := nc_jn_of hf
      have hk5 : k5 = some res → ∀ (H : Heap) (locs : List Loc) (ls : Array Slot), nc_W G K mi H locs → lv_has ls 5 [(0, .ref o)] → W p l e rm_X7_round s m args below meth c H locs 0 0 Q (F0 m 37 ls []) := by
        intro hf H locs ls hw hl
        have hf := (ek5).symm.trans hf
        refine lv_aload_n hx hb dX7_round_37 rfl (lv_at hl 0 rfl) ?_
        refine lv_bipush (v := (-2)) hx hb dX7_round_38 (by decide) ?_
        obtain ⟨q6, hq6, hf⟩ := nc_bi hf
        refine nc_callVi cx hw lk_X7_60 (c_X7_refuse l h0 mi (-2) q6 hq6) (ci := 7) rfl (lNC_is h0) rfl hl.1 rfl (Nat.le_of_ble_eq_true rfl) ⟨rfl, rfl, Nat.le_of_ble_eq_true rfl, Nat.le_of_ble_eq_true rfl⟩ dX7_round_40 (fun H locs hw => ?_)
        exact nc_rpm hret hf rfl hw dX7_round_43
      refine lv_if_lt (tgt := 37) hx hb dX7_round_29 (by decide) (fun c7 => ?_) (fun c7 => ?_)
      · have hf := nc_ifp hf c7
        exact hk5 hf _ _ _ hw (lv_sub hl [0] rfl)
      · have hf := nc_ifn hf c7
        refine lv_iload_n hx hb dX7_round_32 rfl (lv_at hl 3 rfl) ?_
        refine lv_iconst (v := 1) hx hb dX7_round_33 (by decide) ?_
        refine lv_icmp_le (tgt := 44) hx hb dX7_round_34 (by decide) (fun c8 => ?_) (fun c8 => ?_)
        · have hf := nc_ifp hf c8
          refine lv_aload_n hx hb dX7_round_44 rfl (lv_at hl 0 rfl) ?_
          refine gr_X7_10 cx hw (lNC_is h0) (lNC_now h0) (lTown_is (lNC_now_L h0)) dX7_round_45 ?_
          refine lv_iload_n hx hb dX7_round_48 rfl (lv_at hl 1 rfl) ?_
          refine lv_iload_n hx hb dX7_round_49 rfl (lv_at hl 2 rfl) ?_
          obtain ⟨q9, hq9, hf⟩ := nc_bi hf
          refine nc_callVi cx hw lk_X7_180 (c_X5_roundMinute l (lNC_now_L h0) mi a1 a2 q9 hq9) (ci := 5) rfl (lTown_is (lNC_now_L h0)) rfl hl.1 rfl (Nat.le_of_ble_eq_true rfl) ⟨rfl, rfl, Nat.le_of_ble_eq_true rfl, Nat.le_of_ble_eq_true rfl⟩ dX7_round_50 (fun H locs hw => ?_)
          refine lv_istore (lv' := [(4, .int q9), (0, .ref o), (1, .int a1), (2, .int a2), (3, .int a3)]) hx hb dX7_round_53 hl (by decide) rfl (fun ls hl => ?_)
          refine lv_iload hx hb dX7_round_55 (lv_at hl 0 rfl) ?_
          refine lv_bipush (v := (-9)) hx hb dX7_round_57 (by decide) ?_
          refine lv_icmp_eq (tgt := 66) hx hb dX7_round_59 (by decide) (fun c10 => ?_) (fun c10 => ?_)
          · have hf := nc_ifp hf c10
            refine lv_iload hx hb dX7_round_66 (lv_at hl 0 rfl) ?_
            refine lv_goto (tgt := 80) hx hb dX7_round_68 (by decide) ?_
            exact nc_rpm hret hf rfl hw dX7_round_80
          · have hf := nc_ifn hf c10
            refine lv_iload_n hx hb dX7_round_62 rfl (lv_at hl 4 rfl) ?_
            refine lv_if_ne (tgt := 71) hx hb dX7_round_63 (by decide) (fun c11 => ?_) (fun c11 => ?_)
            · have hf := nc_ifn hf c11
              refine lv_aload_n hx hb dX7_round_71 rfl (lv_at hl 1 rfl) ?_
              refine gr_X7_10 cx hw (lNC_is h0) (lNC_now h0) (lTown_is (lNC_now_L h0)) dX7_round_72 ?_
              refine lv_iload_n hx hb dX7_round_75 rfl (lv_at hl 2 rfl) ?_
              refine lv_iload_n hx hb dX7_round_76 rfl (lv_at hl 3 rfl) ?_
              obtain ⟨q12, hq12, hf⟩ := nc_bi hf
              refine nc_callVi cx hw lk_X7_183 (c_X5_roundMore l (lNC_now_L h0) mi a1 a2 q12 hq12) (ci := 5) rfl (lTown_is (lNC_now_L h0)) rfl hl.1 rfl (Nat.le_of_ble_eq_true rfl) ⟨rfl, rfl, Nat.le_of_ble_eq_true rfl, Nat.le_of_ble_eq_true rfl⟩ dX7_round_77 (fun H locs hw => ?_)
              exact nc_rpm hret hf rfl hw dX7_round_80
            · have hf := nc_ifp hf c11
              refine lv_iload hx hb dX7_round_66 (lv_at hl 0 rfl) ?_
              refine lv_goto (tgt := 80) hx hb dX7_round_68 (by decide) ?_
              exact nc_rpm hret hf rfl hw dX7_round_80
        · have hf := nc_ifn hf c8
          exact hk5 hf _ _ _ hw (lv_sub hl [0] rfl)
    · have hf := nc_ifp hf c4
      exact hk1 hf _ _ _ hw (lv_sub hl [0] rfl)
abbrev rm_X0_weigh : Room := { frames := 3, cells := 0, slots := 0, locals := 71 }
set_option maxRecDepth 100000 in
set_option maxHeartbeats 4000000 in
theorem c_X0_weigh (l : Launch) {G : nc_G} {K : nc_K} {o r1 : Nat} (h0 : nc_LDeal G K o) (h1 : nc_LTown G K r1) (mi : nc_Mem) (a2 : Int32) (res : nc_Mem) (hf : f_X0_weigh mi o r1 a2 = some res) : nc_M l yX0_weigh cX0_weigh 5 none rm_X0_weigh 0 0 G K K [.ref o, .ref r1, .int a2] mi res none := by
  refine nc_meet_v (by decide) (Nat.le_of_ble_eq_true rfl) ?_
  intro p e s m args below meth c Q H locs ls cx hret hw hl
  have cx : nc_C p s m args c cX0_weigh 5 RX0 G := cx
  have hl : lv_has ls 5 [(0, .ref o), (1, .ref r1), (2, .int a2)] := hl
  have hx := cx.1
  have hb := cx.2.1
  unfold f_X0_weigh at hf
  refine lv_aload_n hx hb dX0_weigh_0 rfl (lv_at hl 0 rfl) ?_
  refine gr_X0_9 cx hw (lDeal_is h0) (lDeal_gain h0) (lDeal_gain_L h0) dX0_weigh_1 ?_
  refine nc_ldc (v := (-1000000)) cx kc_X0_38 dX0_weigh_4 ?_
  obtain ⟨q1, hq1, hf⟩ := nc_bi hf
  refine nc_callSv cx hw lk_X0_22 (c_J7_fill_53178 l (lDeal_gain_L h0) mi (-1000000) q1 hq1) rfl hl.1 rfl (Nat.le_of_ble_eq_true rfl) ⟨rfl, rfl, Nat.le_of_ble_eq_true rfl, Nat.le_of_ble_eq_true rfl⟩ dX0_weigh_6 (fun H locs hw => ?_)
  refine lv_iconst (v := 0) hx hb dX0_weigh_9 (by decide) ?_
  refine lv_istore_n (lv' := [(3, .int 0), (0, .ref o), (1, .ref r1), (2, .int a2)]) hx hb dX0_weigh_10 rfl hl (by decide) rfl (fun ls hl => ?_)
  refine nc_loop_w (P := fun κ : Int32 → nc_Mem → Option (nc_Mem) => ∀ (x2 : Int32) (mi3 : nc_Mem), κ x2 mi3 = some res → ∀ (H : Heap) (locs : List Loc) (ls : Array Slot), nc_W G K mi3 H locs → lv_has ls 5 [(0, .ref o), (1, .ref r1), (2, .int a2), (3, .int x2)] → W p l e rm_X0_weigh s m args below meth c H locs 0 0 Q (F0 m 11 ls [])) ?_ ?_ 200 _ _ hf _ _ _ hw (lv_sub hl [1, 2, 3, 0] rfl)
  · intro x2 mi3 hf; exact absurd hf (by intro q; cases q)
  · intro rc4 ihrc4 x2 mi3 hf H locs ls hw hl
    unfold B_X0_weigh_11 at hf
    refine lv_iload_n hx hb dX0_weigh_11 rfl (lv_at hl 3 rfl) ?_
    refine lv_aload_n hx hb dX0_weigh_12 rfl (lv_at hl 1 rfl) ?_
    refine gi_X0_28 cx hw (lTown_is h1) dX0_weigh_13 ?_
    refine lv_icmp_ge (tgt := 90) hx hb dX0_weigh_16 (by decide) (fun c5 => ?_) (fun c5 => ?_)
    · have hf := nc_ifp hf c5
      exact nc_vpm hret hf hw dX0_weigh_90
    · have hf := nc_ifn hf c5
      refine lv_iconst (v := 0) hx hb dX0_weigh_19 (by decide) ?_
      refine lv_istore (lv' := [(4, .int 0), (0, .ref o), (1, .ref r1), (2, .int a2), (3, .int x2)]) hx hb dX0_weigh_20 hl (by decide) rfl (fun ls hl => ?_)
      refine nc_loop_w (P := fun κ : Int32 → nc_Mem → Option (nc_Mem) => ∀ (x6 : Int32) (mi7 : nc_Mem), κ x6 mi7 = some res → ∀ (H : Heap) (locs : List Loc) (ls : Array Slot), nc_W G K mi7 H locs → lv_has ls 5 [(0, .ref o), (1, .ref r1), (2, .int a2), (3, .int x2), (4, .int x6)] → W p l e rm_X0_weigh s m args below meth c H locs 0 0 Q (F0 m 22 ls [])) ?_ ?_ 200 _ _ hf _ _ _ hw (lv_sub hl [1, 2, 3, 4, 0] rfl)
      · intro x6 mi7 hf; exact absurd hf (by intro q; cases q)
      · intro rc8 ihrc8 x6 mi7 hf H locs ls hw hl
        unfold B_X0_weigh_22 at hf
        refine lv_iload hx hb dX0_weigh_22 (lv_at hl 4 rfl) ?_
        refine lv_aload_n hx hb dX0_weigh_24 rfl (lv_at hl 1 rfl) ?_
        refine gi_X0_39 cx hw (lTown_is h1) dX0_weigh_25 ?_
        refine lv_icmp_ge (tgt := 84) hx hb dX0_weigh_28 (by decide) (fun c9 => ?_) (fun c9 => ?_)
        · have hf := nc_ifp hf c9
          obtain ⟨x10, ex10⟩ : ∃ y : Int32, y = x2 + 1 := ⟨_, rfl⟩
          have hf := nc_let_at hf ex10
          refine lv_iinc (v := x10) (lv' := [(3, .int x10), (0, .ref o), (1, .ref r1), (2, .int a2), (4, .int x6)]) hx hb dX0_weigh_84 hl (k := 3) rfl (by rw [ex10]; rfl) (by decide) rfl (fun ls hl => ?_)
          refine lv_goto (tgt := 11) hx hb dX0_weigh_87 (by decide) ?_
          exact ihrc4 _ _ hf _ _ _ hw (lv_sub hl [1, 2, 3, 0] rfl)
        · have hf := nc_ifn hf c9
          refine lv_iload_n hx hb dX0_weigh_31 rfl (lv_at hl 3 rfl) ?_
          refine lv_iload_n hx hb dX0_weigh_32 rfl (lv_at hl 2 rfl) ?_
          refine lv_icmp_eq (tgt := 78) hx hb dX0_weigh_33 (by decide) (fun c11 => ?_) (fun c11 => ?_)
          · have hf := nc_ifp hf c11
            obtain ⟨x12, ex12⟩ : ∃ y : Int32, y = x6 + 1 := ⟨_, rfl⟩
            have hf := nc_let_at hf ex12
            refine lv_iinc (v := x12) (lv' := [(4, .int x12), (0, .ref o), (1, .ref r1), (2, .int a2), (3, .int x2)]) hx hb dX0_weigh_78 hl (k := 4) rfl (by rw [ex12]; rfl) (by decide) rfl (fun ls hl => ?_)
            refine lv_goto (tgt := 22) hx hb dX0_weigh_81 (by decide) ?_
            exact ihrc8 _ _ hf _ _ _ hw (lv_sub hl [1, 2, 3, 4, 0] rfl)
          · have hf := nc_ifn hf c11
            refine lv_aload_n hx hb dX0_weigh_36 rfl (lv_at hl 1 rfl) ?_
            refine lv_iload_n hx hb dX0_weigh_37 rfl (lv_at hl 3 rfl) ?_
            refine lv_iload hx hb dX0_weigh_38 (lv_at hl 4 rfl) ?_
            obtain ⟨q13, hq13, hf⟩ := nc_bi hf
            refine nc_callVi cx hw lk_X0_42 (c_X5_roundMinute l h1 mi7 x2 x6 q13 hq13) (ci := 5) rfl (lTown_is h1) rfl hl.1 rfl (Nat.le_of_ble_eq_true rfl) ⟨rfl, rfl, Nat.le_of_ble_eq_true rfl, Nat.le_of_ble_eq_true rfl⟩ dX0_weigh_40 (fun H locs hw => ?_)
            refine lv_bipush (v := (-9)) hx hb dX0_weigh_43 (by decide) ?_
            refine lv_icmp_eq (tgt := 78) hx hb dX0_weigh_45 (by decide) (fun c14 => ?_) (fun c14 => ?_)
            · have hf := nc_ifp hf c14
              obtain ⟨x15, ex15⟩ : ∃ y : Int32, y = x6 + 1 := ⟨_, rfl⟩
              have hf := nc_let_at hf ex15
              refine lv_iinc (v := x15) (lv' := [(4, .int x15), (0, .ref o), (1, .ref r1), (2, .int a2), (3, .int x2)]) hx hb dX0_weigh_78 hl (k := 4) rfl (by rw [ex15]; rfl) (by decide) rfl (fun ls hl => ?_)
              refine lv_goto (tgt := 22) hx hb dX0_weigh_81 (by decide) ?_
              exact ihrc8 _ _ hf _ _ _ hw (lv_sub hl [1, 2, 3, 4, 0] rfl)
            · have hf := nc_ifn hf c14
              refine lv_aload_n hx hb dX0_weigh_48 rfl (lv_at hl 0 rfl) ?_
              refine gr_X0_9 cx hw (lDeal_is h0) (lDeal_gain h0) (lDeal_gain_L h0) dX0_weigh_49 ?_
              refine lv_iload_n hx hb dX0_weigh_52 rfl (lv_at hl 3 rfl) ?_
              refine lv_bipush (v := 6) hx hb dX0_weigh_53 (by decide) ?_
              refine lv_imul hx hb dX0_weigh_55 ?_
              refine lv_iload hx hb dX0_weigh_56 (lv_at hl 4 rfl) ?_
              refine lv_iadd hx hb dX0_weigh_58 ?_
              refine lv_aload_n hx hb dX0_weigh_59 rfl (lv_at hl 1 rfl) ?_
              refine gr_X0_46 cx hw (lTown_is h1) (lTown_goods h1) (lTown_goods_L h1) dX0_weigh_60 ?_
              refine lv_iload hx hb dX0_weigh_63 (lv_at hl 4 rfl) ?_
              obtain ⟨j16, ej16, ij16, lj16, hf⟩ := nc_ix hf
              refine nc_ald cx hw (by decide) (lTown_goods_L h1) ij16 ej16 ((lTown_goods_E h1 j16 lj16)).1 (lThing_is ((lTown_goods_E h1 j16 lj16)).2) dX0_weigh_65 ?_
              refine gi_X0_50 cx hw (lThing_is ((lTown_goods_E h1 j16 lj16)).2) dX0_weigh_66 ?_
              refine lv_aload_n hx hb dX0_weigh_69 rfl (lv_at hl 1 rfl) ?_
              refine lv_iload_n hx hb dX0_weigh_70 rfl (lv_at hl 3 rfl) ?_
              refine lv_iload hx hb dX0_weigh_71 (lv_at hl 4 rfl) ?_
              obtain ⟨q17, hq17, hf⟩ := nc_bi hf
              refine nc_callVi cx hw lk_X0_55 (c_X5_roundMore l h1 mi7 x2 x6 q17 hq17) (ci := 5) rfl (lTown_is h1) rfl hl.1 rfl (Nat.le_of_ble_eq_true rfl) ⟨rfl, rfl, Nat.le_of_ble_eq_true rfl, Nat.le_of_ble_eq_true rfl⟩ dX0_weigh_73 (fun H locs hw => ?_)
              refine lv_isub hx hb dX0_weigh_76 ?_
              obtain ⟨j18, ej18, ij18, lj18, hf⟩ := nc_ix hf
              refine nc_ist cx hw (lDeal_gain_L h0) ij18 ej18 dX0_weigh_77 (fun mi19 H locs emi19 hw => ?_)
              have hf := nc_let_at hf emi19
              obtain ⟨x20, ex20⟩ : ∃ y : Int32, y = x6 + 1 := ⟨_, rfl⟩
              have hf := nc_let_at hf ex20
              refine lv_iinc (v := x20) (lv' := [(4, .int x20), (0, .ref o), (1, .ref r1), (2, .int a2), (3, .int x2)]) hx hb dX0_weigh_78 hl (k := 4) rfl (by rw [ex20]; rfl) (by decide) rfl (fun ls hl => ?_)
              refine lv_goto (tgt := 22) hx hb dX0_weigh_81 (by decide) ?_
              exact ihrc8 _ _ hf _ _ _ hw (lv_sub hl [1, 2, 3, 4, 0] rfl)
abbrev rm_X0_sumWith : Room := { frames := 0, cells := 0, slots := 0, locals := 0 }
set_option maxRecDepth 100000 in
set_option maxHeartbeats 4000000 in
theorem c_X0_sumWith (l : Launch) {G : nc_G} {K : nc_K} {o : Nat} (h0 : nc_LDeal G K o) (mi : nc_Mem) (a1 a2 a3 : Int32) (res : Int32) (hf : f_X0_sumWith mi o a1 a2 a3 = some res) : nc_M l yX0_sumWith cX0_sumWith 4 (some .int) rm_X0_sumWith 0 0 G K K [.ref o, .int a1, .int a2, .int a3] mi mi (some (.int res)) := by
  refine nc_meet_i (by decide) (Nat.le_of_ble_eq_true rfl) ?_
  intro p e s m args below meth c Q H locs ls cx hret hw hl
  have cx : nc_C p s m args c cX0_sumWith 4 RX0 G := cx
  have hl : lv_has ls 4 [(0, .ref o), (1, .int a1), (2, .int a2), (3, .int a3)] := hl
  have hx := cx.1
  have hb := cx.2.1
  unfold f_X0_sumWith at hf
  refine lv_aload_n hx hb dX0_sumWith_0 rfl (lv_at hl 0 rfl) ?_
  refine gr_X0_9 cx hw (lDeal_is h0) (lDeal_gain h0) (lDeal_gain_L h0) dX0_sumWith_1 ?_
  refine lv_iload_n hx hb dX0_sumWith_4 rfl (lv_at hl 1 rfl) ?_
  refine lv_bipush (v := 6) hx hb dX0_sumWith_5 (by decide) ?_
  refine lv_imul hx hb dX0_sumWith_7 ?_
  refine lv_iload_n hx hb dX0_sumWith_8 rfl (lv_at hl 2 rfl) ?_
  refine lv_iadd hx hb dX0_sumWith_9 ?_
  obtain ⟨j1, ej1, ij1, lj1, hf⟩ := nc_ix hf
  refine nc_ild cx hw (lDeal_gain_L h0) ij1 ej1 dX0_sumWith_10 ?_
  refine lv_aload_n hx hb dX0_sumWith_11 rfl (lv_at hl 0 rfl) ?_
  refine gr_X0_15 cx hw (lDeal_is h0) (lDeal_best h0) (lDeal_best_L h0) dX0_sumWith_12 ?_
  refine lv_iload_n hx hb dX0_sumWith_15 rfl (lv_at hl 1 rfl) ?_
  refine lv_iconst (v := 1) hx hb dX0_sumWith_16 (by decide) ?_
  refine lv_iadd hx hb dX0_sumWith_17 ?_
  refine lv_bipush (v := 64) hx hb dX0_sumWith_18 (by decide) ?_
  refine lv_imul hx hb dX0_sumWith_20 ?_
  refine lv_iload_n hx hb dX0_sumWith_21 rfl (lv_at hl 3 rfl) ?_
  refine lv_iconst (v := 1) hx hb dX0_sumWith_22 (by decide) ?_
  refine lv_iload_n hx hb dX0_sumWith_23 rfl (lv_at hl 2 rfl) ?_
  refine lv_ishl hx hb dX0_sumWith_24 ?_
  refine lv_ior hx hb dX0_sumWith_25 ?_
  refine lv_iadd hx hb dX0_sumWith_26 ?_
  obtain ⟨j2, ej2, ij2, lj2, hf⟩ := nc_ix hf
  refine nc_ild cx hw (lDeal_best_L h0) ij2 ej2 dX0_sumWith_27 ?_
  refine lv_iadd hx hb dX0_sumWith_28 ?_
  exact nc_rpp hret hf rfl hw dX0_sumWith_29
abbrev rm_X0_bestFrom : Room := { frames := 1, cells := 0, slots := 0, locals := 24 }
set_option maxRecDepth 100000 in
set_option maxHeartbeats 4000000 in
theorem c_X0_bestFrom (l : Launch) {G : nc_G} {K : nc_K} {o r1 : Nat} (h0 : nc_LDeal G K o) (h1 : nc_LTown G K r1) (mi : nc_Mem) (a2 a3 : Int32) (res : Int32) (hf : f_X0_bestFrom mi o r1 a2 a3 = some res) : nc_M l yX0_bestFrom cX0_bestFrom 6 (some .int) rm_X0_bestFrom 0 0 G K K [.ref o, .ref r1, .int a2, .int a3] mi mi (some (.int res)) := by
  refine nc_meet_i (by decide) (Nat.le_of_ble_eq_true rfl) ?_
  intro p e s m args below meth c Q H locs ls cx hret hw hl
  have cx : nc_C p s m args c cX0_bestFrom 6 RX0 G := cx
  have hl : lv_has ls 6 [(0, .ref o), (1, .ref r1), (2, .int a2), (3, .int a3)] := hl
  have hx := cx.1
  have hb := cx.2.1
  unfold f_X0_bestFrom at hf
  refine lv_aload_n hx hb dX0_bestFrom_0 rfl (lv_at hl 0 rfl) ?_
  refine gr_X0_15 cx hw (lDeal_is h0) (lDeal_best h0) (lDeal_best_L h0) dX0_bestFrom_1 ?_
  refine lv_iload_n hx hb dX0_bestFrom_4 rfl (lv_at hl 2 rfl) ?_
  refine lv_iconst (v := 1) hx hb dX0_bestFrom_5 (by decide) ?_
  refine lv_iadd hx hb dX0_bestFrom_6 ?_
  refine lv_bipush (v := 64) hx hb dX0_bestFrom_7 (by decide) ?_
  refine lv_imul hx hb dX0_bestFrom_9 ?_
  refine lv_iload_n hx hb dX0_bestFrom_10 rfl (lv_at hl 3 rfl) ?_
  refine lv_iadd hx hb dX0_bestFrom_11 ?_
  obtain ⟨j1, ej1, ij1, lj1, hf⟩ := nc_ix hf
  refine nc_ild cx hw (lDeal_best_L h0) ij1 ej1 dX0_bestFrom_12 ?_
  refine lv_topi (fun x2 ex2 => ?_)
  have hf := nc_let_at hf ex2
  refine lv_istore (lv' := [(4, .int x2), (0, .ref o), (1, .ref r1), (2, .int a2), (3, .int a3)]) hx hb dX0_bestFrom_13 hl (by decide) rfl (fun ls hl => ?_)
  refine lv_iconst (v := 0) hx hb dX0_bestFrom_15 (by decide) ?_
  refine lv_istore (lv' := [(5, .int 0), (4, .int x2), (0, .ref o), (1, .ref r1), (2, .int a2), (3, .int a3)]) hx hb dX0_bestFrom_16 hl (by decide) rfl (fun ls hl => ?_)
  refine nc_loop_w (P := fun κ : Int32 → Int32 → Option (Int32) => ∀ (x3 : Int32) (x4 : Int32), κ x3 x4 = some res → ∀ (H : Heap) (locs : List Loc) (ls : Array Slot), nc_W G K mi H locs → lv_has ls 6 [(0, .ref o), (1, .ref r1), (2, .int a2), (3, .int a3), (4, .int x3), (5, .int x4)] → W p l e rm_X0_bestFrom s m args below meth c H locs 0 0 Q (F0 m 18 ls [])) ?_ ?_ 200 _ _ hf _ _ _ hw (lv_sub hl [2, 3, 4, 5, 1, 0] rfl)
  · intro x3 x4 hf; exact absurd hf (by intro q; cases q)
  · intro rc5 ihrc5 x3 x4 hf H locs ls hw hl
    unfold B_X0_bestFrom_18 at hf
    refine lv_iload hx hb dX0_bestFrom_18 (lv_at hl 5 rfl) ?_
    refine lv_aload_n hx hb dX0_bestFrom_20 rfl (lv_at hl 1 rfl) ?_
    refine gi_X0_39 cx hw (lTown_is h1) dX0_bestFrom_21 ?_
    refine lv_icmp_ge (tgt := 57) hx hb dX0_bestFrom_24 (by decide) (fun c6 => ?_) (fun c6 => ?_)
    · have hf := nc_ifp hf c6
      refine lv_iload hx hb dX0_bestFrom_57 (lv_at hl 4 rfl) ?_
      exact nc_rpp hret hf rfl hw dX0_bestFrom_59
    · have hf := nc_ifn hf c6
      refine lv_iload_n hx hb dX0_bestFrom_27 rfl (lv_at hl 3 rfl) ?_
      refine lv_iload hx hb dX0_bestFrom_28 (lv_at hl 5 rfl) ?_
      refine lv_ishr hx hb dX0_bestFrom_30 ?_
      refine lv_iconst (v := 1) hx hb dX0_bestFrom_31 (by decide) ?_
      refine lv_iand hx hb dX0_bestFrom_32 ?_
      refine lv_if_ne (tgt := 51) hx hb dX0_bestFrom_33 (by decide) (fun c7 => ?_) (fun c7 => ?_)
      · have hf := nc_ifn hf c7
        obtain ⟨x8, ex8⟩ : ∃ y : Int32, y = x4 + 1 := ⟨_, rfl⟩
        have hf := nc_let_at hf ex8
        refine lv_iinc (v := x8) (lv' := [(5, .int x8), (0, .ref o), (1, .ref r1), (2, .int a2), (3, .int a3), (4, .int x3)]) hx hb dX0_bestFrom_51 hl (k := 5) rfl (by rw [ex8]; rfl) (by decide) rfl (fun ls hl => ?_)
        refine lv_goto (tgt := 18) hx hb dX0_bestFrom_54 (by decide) ?_
        exact ihrc5 _ _ hf _ _ _ hw (lv_sub hl [1, 2, 3, 4, 5, 0] rfl)
      · have hf := nc_ifp hf c7
        refine lv_iload hx hb dX0_bestFrom_36 (lv_at hl 4 rfl) ?_
        refine lv_aload_n hx hb dX0_bestFrom_38 rfl (lv_at hl 0 rfl) ?_
        refine lv_iload_n hx hb dX0_bestFrom_39 rfl (lv_at hl 2 rfl) ?_
        refine lv_iload hx hb dX0_bestFrom_40 (lv_at hl 5 rfl) ?_
        refine lv_iload_n hx hb dX0_bestFrom_42 rfl (lv_at hl 3 rfl) ?_
        obtain ⟨q9, hq9, hf⟩ := nc_bi hf
        refine nc_callVi cx hw lk_X0_58 (c_X0_sumWith l h0 mi a2 x4 a3 q9 hq9) (ci := 0) rfl (lDeal_is h0) rfl hl.1 rfl (Nat.le_of_ble_eq_true rfl) ⟨rfl, rfl, Nat.le_of_ble_eq_true rfl, Nat.le_of_ble_eq_true rfl⟩ dX0_bestFrom_43 (fun H locs hw => ?_)
        refine nc_mx cx hl.1 (nc_w 761 (by decide +kernel) rfl) ⟨Nat.le_of_ble_eq_true rfl, Nat.le_of_ble_eq_true rfl⟩ dX0_bestFrom_46 ?_
        refine lv_topi (fun x10 ex10 => ?_)
        have hf := nc_let_at hf ex10
        refine lv_istore (lv' := [(4, .int x10), (0, .ref o), (1, .ref r1), (2, .int a2), (3, .int a3), (5, .int x4)]) hx hb dX0_bestFrom_49 hl (by decide) rfl (fun ls hl => ?_)
        obtain ⟨x11, ex11⟩ : ∃ y : Int32, y = x4 + 1 := ⟨_, rfl⟩
        have hf := nc_let_at hf ex11
        refine lv_iinc (v := x11) (lv' := [(5, .int x11), (4, .int x10), (0, .ref o), (1, .ref r1), (2, .int a2), (3, .int a3)]) hx hb dX0_bestFrom_51 hl (k := 5) rfl (by rw [ex11]; rfl) (by decide) rfl (fun ls hl => ?_)
        refine lv_goto (tgt := 18) hx hb dX0_bestFrom_54 (by decide) ?_
        exact ihrc5 _ _ hf _ _ _ hw (lv_sub hl [2, 3, 4, 5, 1, 0] rfl)
abbrev rm_X0_bestSum : Room := { frames := 4, cells := 0, slots := 0, locals := 95 }
set_option maxRecDepth 100000 in
set_option maxHeartbeats 4000000 in
theorem c_X0_bestSum (l : Launch) {G : nc_G} {K : nc_K} {o r1 : Nat} (h0 : nc_LDeal G K o) (h1 : nc_LTown G K r1) (mi : nc_Mem) (a2 : Int32) (res : nc_Mem × Int32) (hf : f_X0_bestSum mi o r1 a2 = some res) : nc_M l yX0_bestSum cX0_bestSum 5 (some .int) rm_X0_bestSum 0 0 G K K [.ref o, .ref r1, .int a2] mi res.1 (some (.int res.2)) := by
  refine nc_meet_i (by decide) (Nat.le_of_ble_eq_true rfl) ?_
  intro p e s m args below meth c Q H locs ls cx hret hw hl
  have cx : nc_C p s m args c cX0_bestSum 5 RX0 G := cx
  have hl : lv_has ls 5 [(0, .ref o), (1, .ref r1), (2, .int a2)] := hl
  have hx := cx.1
  have hb := cx.2.1
  unfold f_X0_bestSum at hf
  refine lv_aload_n hx hb dX0_bestSum_0 rfl (lv_at hl 0 rfl) ?_
  refine lv_aload_n hx hb dX0_bestSum_1 rfl (lv_at hl 1 rfl) ?_
  refine lv_iload_n hx hb dX0_bestSum_2 rfl (lv_at hl 2 rfl) ?_
  obtain ⟨q1, hq1, hf⟩ := nc_bi hf
  refine nc_callVv cx hw lk_X0_18 (c_X0_weigh l h0 h1 mi a2 q1 hq1) (ci := 0) rfl (lDeal_is h0) rfl hl.1 rfl (Nat.le_of_ble_eq_true rfl) ⟨rfl, rfl, Nat.le_of_ble_eq_true rfl, Nat.le_of_ble_eq_true rfl⟩ dX0_bestSum_3 (fun H locs hw => ?_)
  refine lv_aload_n hx hb dX0_bestSum_6 rfl (lv_at hl 0 rfl) ?_
  refine gr_X0_15 cx hw (lDeal_is h0) (lDeal_best h0) (lDeal_best_L h0) dX0_bestSum_7 ?_
  refine lv_iconst (v := 0) hx hb dX0_bestSum_10 (by decide) ?_
  obtain ⟨q2, hq2, hf⟩ := nc_bi hf
  refine nc_callSv cx hw lk_X0_22 (c_J7_fill_53178 l (lDeal_best_L h0) q1 0 q2 hq2) rfl hl.1 rfl (Nat.le_of_ble_eq_true rfl) ⟨rfl, rfl, Nat.le_of_ble_eq_true rfl, Nat.le_of_ble_eq_true rfl⟩ dX0_bestSum_11 (fun H locs hw => ?_)
  refine lv_aload_n hx hb dX0_bestSum_14 rfl (lv_at hl 1 rfl) ?_
  refine gi_X0_28 cx hw (lTown_is h1) dX0_bestSum_15 ?_
  refine lv_iconst (v := 1) hx hb dX0_bestSum_18 (by decide) ?_
  refine lv_isub hx hb dX0_bestSum_19 ?_
  refine lv_topi (fun x3 ex3 => ?_)
  have hf := nc_let_at hf ex3
  refine lv_istore_n (lv' := [(3, .int x3), (0, .ref o), (1, .ref r1), (2, .int a2)]) hx hb dX0_bestSum_20 rfl hl (by decide) rfl (fun ls hl => ?_)
  obtain ⟨k4, ek4, hf⟩ := nc_jn_of hf
  have hk4 : ∀ (mi5 : nc_Mem), k4 mi5 = some res → ∀ (H : Heap) (locs : List Loc) (ls : Array Slot), nc_W G K mi5 H locs → lv_has ls 5 [(0, .ref o)] → W p l e rm_X0_bestSum s m args below meth c H locs 0 0 Q (F0 m 67 ls []) := by
    intro mi5 hf H locs ls hw hl
    have hf := ((congrFun ek4 mi5)).symm.trans hf
    refine lv_aload_n hx hb dX0_bestSum_67 rfl (lv_at hl 0 rfl) ?_
    refine gr_X0_15 cx hw (lDeal_is h0) (lDeal_best h0) (lDeal_best_L h0) dX0_bestSum_68 ?_
    refine lv_iconst (v := 0) hx hb dX0_bestSum_71 (by decide) ?_
    refine nc_ild cx hw (lDeal_best_L h0) (nc_lit (j := 0) rfl (by decide) (by decide)) rfl dX0_bestSum_72 ?_
    exact nc_rpm hret hf rfl hw dX0_bestSum_73
  refine nc_loop_w (P := fun κ : Int32 → nc_Mem → Option (nc_Mem × Int32) => ∀ (x6 : Int32) (mi7 : nc_Mem), κ x6 mi7 = some res → ∀ (H : Heap) (locs : List Loc) (ls : Array Slot), nc_W G K mi7 H locs → lv_has ls 5 [(0, .ref o), (1, .ref r1), (3, .int x6)] → W p l e rm_X0_bestSum s m args below meth c H locs 0 0 Q (F0 m 21 ls [])) ?_ ?_ 200 _ _ hf _ _ _ hw (lv_sub hl [1, 2, 0] rfl)
  · intro x6 mi7 hf; exact absurd hf (by intro q; cases q)
  · intro rc8 ihrc8 x6 mi7 hf H locs ls hw hl
    unfold B_X0_bestSum_21 at hf
    refine lv_iload_n hx hb dX0_bestSum_21 rfl (lv_at hl 2 rfl) ?_
    refine lv_if_lt (tgt := 67) hx hb dX0_bestSum_22 (by decide) (fun c9 => ?_) (fun c9 => ?_)
    · have hf := nc_ifp hf c9
      exact hk4 _ hf _ _ _ hw (lv_sub hl [0] rfl)
    · have hf := nc_ifn hf c9
      refine lv_iconst (v := 0) hx hb dX0_bestSum_25 (by decide) ?_
      refine lv_istore (lv' := [(4, .int 0), (0, .ref o), (1, .ref r1), (3, .int x6)]) hx hb dX0_bestSum_26 hl (by decide) rfl (fun ls hl => ?_)
      refine nc_loop_w (P := fun κ : Int32 → nc_Mem → Option (nc_Mem × Int32) => ∀ (x10 : Int32) (mi11 : nc_Mem), κ x10 mi11 = some res → ∀ (H : Heap) (locs : List Loc) (ls : Array Slot), nc_W G K mi11 H locs → lv_has ls 5 [(0, .ref o), (1, .ref r1), (3, .int x6), (4, .int x10)] → W p l e rm_X0_bestSum s m args below meth c H locs 0 0 Q (F0 m 28 ls [])) ?_ ?_ 200 _ _ hf _ _ _ hw (lv_sub hl [1, 2, 3, 0] rfl)
      · intro x10 mi11 hf; exact absurd hf (by intro q; cases q)
      · intro rc12 ihrc12 x10 mi11 hf H locs ls hw hl
        unfold B_X0_bestSum_28 at hf
        refine lv_iload hx hb dX0_bestSum_28 (lv_at hl 3 rfl) ?_
        refine lv_bipush (v := 64) hx hb dX0_bestSum_30 (by decide) ?_
        refine lv_icmp_ge (tgt := 61) hx hb dX0_bestSum_32 (by decide) (fun c13 => ?_) (fun c13 => ?_)
        · have hf := nc_ifp hf c13
          obtain ⟨x14, ex14⟩ : ∃ y : Int32, y = x6 + (-1) := ⟨_, rfl⟩
          have hf := nc_let_at hf ex14
          refine lv_iinc (v := x14) (lv' := [(3, .int x14), (0, .ref o), (1, .ref r1), (4, .int x10)]) hx hb dX0_bestSum_61 hl (k := 2) rfl (by rw [ex14]; rfl) (by decide) rfl (fun ls hl => ?_)
          refine lv_goto (tgt := 21) hx hb dX0_bestSum_64 (by decide) ?_
          exact ihrc8 _ _ hf _ _ _ hw (lv_sub hl [1, 2, 0] rfl)
        · have hf := nc_ifn hf c13
          refine lv_aload_n hx hb dX0_bestSum_35 rfl (lv_at hl 0 rfl) ?_
          refine gr_X0_15 cx hw (lDeal_is h0) (lDeal_best h0) (lDeal_best_L h0) dX0_bestSum_36 ?_
          refine lv_iload_n hx hb dX0_bestSum_39 rfl (lv_at hl 2 rfl) ?_
          refine lv_bipush (v := 64) hx hb dX0_bestSum_40 (by decide) ?_
          refine lv_imul hx hb dX0_bestSum_42 ?_
          refine lv_iload hx hb dX0_bestSum_43 (lv_at hl 3 rfl) ?_
          refine lv_iadd hx hb dX0_bestSum_45 ?_
          refine lv_aload_n hx hb dX0_bestSum_46 rfl (lv_at hl 0 rfl) ?_
          refine lv_aload_n hx hb dX0_bestSum_47 rfl (lv_at hl 1 rfl) ?_
          refine lv_iload_n hx hb dX0_bestSum_48 rfl (lv_at hl 2 rfl) ?_
          refine lv_iload hx hb dX0_bestSum_49 (lv_at hl 3 rfl) ?_
          obtain ⟨q15, hq15, hf⟩ := nc_bi hf
          refine nc_callVi cx hw lk_X0_34 (c_X0_bestFrom l h0 h1 mi11 x6 x10 q15 hq15) (ci := 0) rfl (lDeal_is h0) rfl hl.1 rfl (Nat.le_of_ble_eq_true rfl) ⟨rfl, rfl, Nat.le_of_ble_eq_true rfl, Nat.le_of_ble_eq_true rfl⟩ dX0_bestSum_51 (fun H locs hw => ?_)
          obtain ⟨j16, ej16, ij16, lj16, hf⟩ := nc_ix hf
          refine nc_ist cx hw (lDeal_best_L h0) ij16 ej16 dX0_bestSum_54 (fun mi17 H locs emi17 hw => ?_)
          have hf := nc_let_at hf emi17
          obtain ⟨x18, ex18⟩ : ∃ y : Int32, y = x10 + 1 := ⟨_, rfl⟩
          have hf := nc_let_at hf ex18
          refine lv_iinc (v := x18) (lv' := [(4, .int x18), (0, .ref o), (1, .ref r1), (3, .int x6)]) hx hb dX0_bestSum_55 hl (k := 3) rfl (by rw [ex18]; rfl) (by decide) rfl (fun ls hl => ?_)
          refine lv_goto (tgt := 28) hx hb dX0_bestSum_58 (by decide) ?_
          exact ihrc12 _ _ hf _ _ _ hw (lv_sub hl [1, 2, 3, 0] rfl)
abbrev rm_X0_firstChoice : Room := { frames := 1, cells := 0, slots := 0, locals := 23 }
set_option maxRecDepth 100000 in
set_option maxHeartbeats 4000000 in
theorem c_X0_firstChoice (l : Launch) {G : nc_G} {K : nc_K} {o r1 : Nat} (h0 : nc_LDeal G K o) (h1 : nc_LTown G K r1) (mi : nc_Mem) (a2 a3 : Int32) (res : Int32) (hf : f_X0_firstChoice mi o r1 a2 a3 = some res) : nc_M l yX0_firstChoice cX0_firstChoice 6 (some .int) rm_X0_firstChoice 0 0 G K K [.ref o, .ref r1, .int a2, .int a3] mi mi (some (.int res)) := by
  refine nc_meet_i (by decide) (Nat.le_of_ble_eq_true rfl) ?_
  intro p e s m args below meth c Q H locs ls cx hret hw hl
  have cx : nc_C p s m args c cX0_firstChoice 6 RX0 G := cx
  have hl : lv_has ls 6 [(0, .ref o), (1, .ref r1), (2, .int a2), (3, .int a3)] := hl
  have hx := cx.1
  have hb := cx.2.1
  unfold f_X0_firstChoice at hf
  refine lv_aload_n hx hb dX0_firstChoice_0 rfl (lv_at hl 0 rfl) ?_
  refine gr_X0_15 cx hw (lDeal_is h0) (lDeal_best h0) (lDeal_best_L h0) dX0_firstChoice_1 ?_
  refine lv_iload_n hx hb dX0_firstChoice_4 rfl (lv_at hl 2 rfl) ?_
  refine lv_bipush (v := 64) hx hb dX0_firstChoice_5 (by decide) ?_
  refine lv_imul hx hb dX0_firstChoice_7 ?_
  refine lv_iload_n hx hb dX0_firstChoice_8 rfl (lv_at hl 3 rfl) ?_
  refine lv_iadd hx hb dX0_firstChoice_9 ?_
  obtain ⟨j1, ej1, ij1, lj1, hf⟩ := nc_ix hf
  refine nc_ild cx hw (lDeal_best_L h0) ij1 ej1 dX0_firstChoice_10 ?_
  refine lv_topi (fun x2 ex2 => ?_)
  have hf := nc_let_at hf ex2
  refine lv_istore (lv' := [(4, .int x2), (0, .ref o), (1, .ref r1), (2, .int a2), (3, .int a3)]) hx hb dX0_firstChoice_11 hl (by decide) rfl (fun ls hl => ?_)
  refine lv_aload_n hx hb dX0_firstChoice_13 rfl (lv_at hl 1 rfl) ?_
  refine gr_X0_15 cx hw (lDeal_is h0) (lDeal_best h0) (lDeal_best_L h0) dX0_firstChoice_14 ?_
  refine lv_iload_n hx hb dX0_firstChoice_17 rfl (lv_at hl 3 rfl) ?_
  refine lv_iconst (v := 1) hx hb dX0_firstChoice_18 (by decide) ?_
  refine lv_iadd hx hb dX0_firstChoice_19 ?_
  refine lv_bipush (v := 64) hx hb dX0_firstChoice_20 (by decide) ?_
  refine lv_imul hx hb dX0_firstChoice_22 ?_
  refine lv_iload_n hx hb dX0_firstChoice_23 rfl (lv_at hl 4 rfl) ?_
  refine lv_iadd hx hb dX0_firstChoice_24 ?_
  obtain ⟨j3, ej3, ij3, lj3, hf⟩ := nc_ix hf
  refine nc_ild cx hw (lDeal_best_L h0) ij3 ej3 dX0_firstChoice_25 ?_
  refine lv_iload hx hb dX0_firstChoice_26 (lv_at hl 0 rfl) ?_
  refine lv_icmp_ne (tgt := 34) hx hb dX0_firstChoice_28 (by decide) (fun c4 => ?_) (fun c4 => ?_)
  · have hf := nc_ifn hf c4
    refine lv_iconst (v := 0) hx hb dX0_firstChoice_34 (by decide) ?_
    refine lv_istore (lv' := [(5, .int 0), (4, .int x2), (0, .ref o), (1, .ref r1), (2, .int a2), (3, .int a3)]) hx hb dX0_firstChoice_35 hl (by decide) rfl (fun ls hl => ?_)
    refine nc_loop_w (P := fun κ : Int32 → Option (Int32) => ∀ (x5 : Int32), κ x5 = some res → ∀ (H : Heap) (locs : List Loc) (ls : Array Slot), nc_W G K mi H locs → lv_has ls 6 [(0, .ref o), (1, .ref r1), (2, .int a2), (3, .int a3), (4, .int x2), (5, .int x5)] → W p l e rm_X0_firstChoice s m args below meth c H locs 0 0 Q (F0 m 37 ls [])) ?_ ?_ 200 _ hf _ _ _ hw (lv_sub hl [2, 3, 4, 5, 1, 0] rfl)
    · intro x5 hf; exact absurd hf (by intro q; cases q)
    · intro rc6 ihrc6 x5 hf H locs ls hw hl
      unfold B_X0_firstChoice_37 at hf
      refine lv_iload hx hb dX0_firstChoice_37 (lv_at hl 5 rfl) ?_
      refine lv_aload_n hx hb dX0_firstChoice_39 rfl (lv_at hl 1 rfl) ?_
      refine gi_X0_39 cx hw (lTown_is h1) dX0_firstChoice_40 ?_
      refine lv_icmp_ge (tgt := 77) hx hb dX0_firstChoice_43 (by decide) (fun c7 => ?_) (fun c7 => ?_)
      · have hf := nc_ifp hf c7
        refine lv_bipush (v := (-9)) hx hb dX0_firstChoice_77 (by decide) ?_
        exact nc_rpp hret hf rfl hw dX0_firstChoice_79
      · have hf := nc_ifn hf c7
        refine lv_iload_n hx hb dX0_firstChoice_46 rfl (lv_at hl 3 rfl) ?_
        refine lv_iload hx hb dX0_firstChoice_47 (lv_at hl 5 rfl) ?_
        refine lv_ishr hx hb dX0_firstChoice_49 ?_
        refine lv_iconst (v := 1) hx hb dX0_firstChoice_50 (by decide) ?_
        refine lv_iand hx hb dX0_firstChoice_51 ?_
        refine lv_if_ne (tgt := 71) hx hb dX0_firstChoice_52 (by decide) (fun c8 => ?_) (fun c8 => ?_)
        · have hf := nc_ifn hf c8
          obtain ⟨x9, ex9⟩ : ∃ y : Int32, y = x5 + 1 := ⟨_, rfl⟩
          have hf := nc_let_at hf ex9
          refine lv_iinc (v := x9) (lv' := [(5, .int x9), (0, .ref o), (1, .ref r1), (2, .int a2), (3, .int a3), (4, .int x2)]) hx hb dX0_firstChoice_71 hl (k := 5) rfl (by rw [ex9]; rfl) (by decide) rfl (fun ls hl => ?_)
          refine lv_goto (tgt := 37) hx hb dX0_firstChoice_74 (by decide) ?_
          exact ihrc6 _ hf _ _ _ hw (lv_sub hl [1, 2, 3, 4, 5, 0] rfl)
        · have hf := nc_ifp hf c8
          refine lv_aload_n hx hb dX0_firstChoice_55 rfl (lv_at hl 0 rfl) ?_
          refine lv_iload_n hx hb dX0_firstChoice_56 rfl (lv_at hl 2 rfl) ?_
          refine lv_iload hx hb dX0_firstChoice_57 (lv_at hl 5 rfl) ?_
          refine lv_iload_n hx hb dX0_firstChoice_59 rfl (lv_at hl 3 rfl) ?_
          obtain ⟨q10, hq10, hf⟩ := nc_bi hf
          refine nc_callVi cx hw lk_X0_58 (c_X0_sumWith l h0 mi a2 x5 a3 q10 hq10) (ci := 0) rfl (lDeal_is h0) rfl hl.1 rfl (Nat.le_of_ble_eq_true rfl) ⟨rfl, rfl, Nat.le_of_ble_eq_true rfl, Nat.le_of_ble_eq_true rfl⟩ dX0_firstChoice_60 (fun H locs hw => ?_)
          refine lv_iload hx hb dX0_firstChoice_63 (lv_at hl 4 rfl) ?_
          refine lv_icmp_ne (tgt := 71) hx hb dX0_firstChoice_65 (by decide) (fun c11 => ?_) (fun c11 => ?_)
          · have hf := nc_ifn hf c11
            obtain ⟨x12, ex12⟩ : ∃ y : Int32, y = x5 + 1 := ⟨_, rfl⟩
            have hf := nc_let_at hf ex12
            refine lv_iinc (v := x12) (lv' := [(5, .int x12), (0, .ref o), (1, .ref r1), (2, .int a2), (3, .int a3), (4, .int x2)]) hx hb dX0_firstChoice_71 hl (k := 5) rfl (by rw [ex12]; rfl) (by decide) rfl (fun ls hl => ?_)
            refine lv_goto (tgt := 37) hx hb dX0_firstChoice_74 (by decide) ?_
            exact ihrc6 _ hf _ _ _ hw (lv_sub hl [1, 2, 3, 4, 5, 0] rfl)
          · have hf := nc_ifp hf c11
            refine lv_iload hx hb dX0_firstChoice_68 (lv_at hl 5 rfl) ?_
            exact nc_rpp hret hf rfl hw dX0_firstChoice_70
  · have hf := nc_ifp hf c4
    refine lv_bipush (v := (-9)) hx hb dX0_firstChoice_31 (by decide) ?_
    exact nc_rpp hret hf rfl hw dX0_firstChoice_33
abbrev rm_X0_thingOf : Room := { frames := 2, cells := 0, slots := 0, locals := 48 }
set_option maxRecDepth 100000 in
set_option maxHeartbeats 4000000 in
theorem c_X0_thingOf (l : Launch) {G : nc_G} {K : nc_K} {o r1 : Nat} (h0 : nc_LDeal G K o) (h1 : nc_LTown G K r1) (mi : nc_Mem) (a2 : Int32) (res : Int32) (hf : f_X0_thingOf mi o r1 a2 = some res) : nc_M l yX0_thingOf cX0_thingOf 6 (some .int) rm_X0_thingOf 0 0 G K K [.ref o, .ref r1, .int a2] mi mi (some (.int res)) := by
  refine nc_meet_i (by decide) (Nat.le_of_ble_eq_true rfl) ?_
  intro p e s m args below meth c Q H locs ls cx hret hw hl
  have cx : nc_C p s m args c cX0_thingOf 6 RX0 G := cx
  have hl : lv_has ls 6 [(0, .ref o), (1, .ref r1), (2, .int a2)] := hl
  have hx := cx.1
  have hb := cx.2.1
  unfold f_X0_thingOf at hf
  refine lv_iconst (v := 0) hx hb dX0_thingOf_0 (by decide) ?_
  refine lv_istore_n (lv' := [(3, .int 0), (0, .ref o), (1, .ref r1), (2, .int a2)]) hx hb dX0_thingOf_1 rfl hl (by decide) rfl (fun ls hl => ?_)
  refine lv_bipush (v := (-9)) hx hb dX0_thingOf_2 (by decide) ?_
  refine lv_istore (lv' := [(4, .int (-9)), (3, .int 0), (0, .ref o), (1, .ref r1), (2, .int a2)]) hx hb dX0_thingOf_4 hl (by decide) rfl (fun ls hl => ?_)
  refine lv_iconst (v := 0) hx hb dX0_thingOf_6 (by decide) ?_
  refine lv_istore (lv' := [(5, .int 0), (4, .int (-9)), (3, .int 0), (0, .ref o), (1, .ref r1), (2, .int a2)]) hx hb dX0_thingOf_7 hl (by decide) rfl (fun ls hl => ?_)
  refine nc_loop_w (P := fun κ : Int32 → Int32 → Int32 → Option (Int32) => ∀ (x1 : Int32) (x2 : Int32) (x3 : Int32), κ x1 x2 x3 = some res → ∀ (H : Heap) (locs : List Loc) (ls : Array Slot), nc_W G K mi H locs → lv_has ls 6 [(0, .ref o), (1, .ref r1), (2, .int a2), (3, .int x1), (4, .int x2), (5, .int x3)] → W p l e rm_X0_thingOf s m args below meth c H locs 0 0 Q (F0 m 9 ls [])) ?_ ?_ 200 _ _ _ hf _ _ _ hw (lv_sub hl [3, 4, 5, 2, 1, 0] rfl)
  · intro x1 x2 x3 hf; exact absurd hf (by intro q; cases q)
  · intro rc4 ihrc4 x1 x2 x3 hf H locs ls hw hl
    unfold B_X0_thingOf_9 at hf
    refine lv_iload hx hb dX0_thingOf_9 (lv_at hl 5 rfl) ?_
    refine lv_iload_n hx hb dX0_thingOf_11 rfl (lv_at hl 2 rfl) ?_
    refine lv_icmp_gt (tgt := 54) hx hb dX0_thingOf_12 (by decide) (fun c5 => ?_) (fun c5 => ?_)
    · have hf := nc_ifp hf c5
      refine lv_iload hx hb dX0_thingOf_54 (lv_at hl 4 rfl) ?_
      exact nc_rpp hret hf rfl hw dX0_thingOf_56
    · have hf := nc_ifn hf c5
      refine lv_iload hx hb dX0_thingOf_15 (lv_at hl 5 rfl) ?_
      refine lv_aload_n hx hb dX0_thingOf_17 rfl (lv_at hl 1 rfl) ?_
      refine gi_X0_28 cx hw (lTown_is h1) dX0_thingOf_18 ?_
      refine lv_icmp_ge (tgt := 54) hx hb dX0_thingOf_21 (by decide) (fun c6 => ?_) (fun c6 => ?_)
      · have hf := nc_ifp hf c6
        refine lv_iload hx hb dX0_thingOf_54 (lv_at hl 4 rfl) ?_
        exact nc_rpp hret hf rfl hw dX0_thingOf_56
      · have hf := nc_ifn hf c6
        refine lv_aload_n hx hb dX0_thingOf_24 rfl (lv_at hl 0 rfl) ?_
        refine lv_aload_n hx hb dX0_thingOf_25 rfl (lv_at hl 1 rfl) ?_
        refine lv_iload hx hb dX0_thingOf_26 (lv_at hl 5 rfl) ?_
        refine lv_iload_n hx hb dX0_thingOf_28 rfl (lv_at hl 3 rfl) ?_
        obtain ⟨q7, hq7, hf⟩ := nc_bi hf
        refine nc_callVi cx hw lk_X0_67 (c_X0_firstChoice l h0 h1 mi x3 x1 q7 hq7) (ci := 0) rfl (lDeal_is h0) rfl hl.1 rfl (Nat.le_of_ble_eq_true rfl) ⟨rfl, rfl, Nat.le_of_ble_eq_true rfl, Nat.le_of_ble_eq_true rfl⟩ dX0_thingOf_29 (fun H locs hw => ?_)
        refine lv_istore (lv' := [(4, .int q7), (0, .ref o), (1, .ref r1), (2, .int a2), (3, .int x1), (5, .int x3)]) hx hb dX0_thingOf_32 hl (by decide) rfl (fun ls hl => ?_)
        refine lv_iload hx hb dX0_thingOf_34 (lv_at hl 0 rfl) ?_
        refine lv_bipush (v := (-9)) hx hb dX0_thingOf_36 (by decide) ?_
        refine lv_icmp_eq (tgt := 48) hx hb dX0_thingOf_38 (by decide) (fun c8 => ?_) (fun c8 => ?_)
        · have hf := nc_ifp hf c8
          obtain ⟨x9, ex9⟩ : ∃ y : Int32, y = x3 + 1 := ⟨_, rfl⟩
          have hf := nc_let_at hf ex9
          refine lv_iinc (v := x9) (lv' := [(5, .int x9), (4, .int q7), (0, .ref o), (1, .ref r1), (2, .int a2), (3, .int x1)]) hx hb dX0_thingOf_48 hl (k := 5) rfl (by rw [ex9]; rfl) (by decide) rfl (fun ls hl => ?_)
          refine lv_goto (tgt := 9) hx hb dX0_thingOf_51 (by decide) ?_
          exact ihrc4 _ _ _ hf _ _ _ hw (lv_sub hl [2, 3, 4, 5, 1, 0] rfl)
        · have hf := nc_ifn hf c8
          refine lv_iload_n hx hb dX0_thingOf_41 rfl (lv_at hl 4 rfl) ?_
          refine lv_iconst (v := 1) hx hb dX0_thingOf_42 (by decide) ?_
          refine lv_iload hx hb dX0_thingOf_43 (lv_at hl 0 rfl) ?_
          refine lv_ishl hx hb dX0_thingOf_45 ?_
          refine lv_ior hx hb dX0_thingOf_46 ?_
          refine lv_topi (fun x10 ex10 => ?_)
          have hf := nc_let_at hf ex10
          refine lv_istore_n (lv' := [(3, .int x10), (4, .int q7), (0, .ref o), (1, .ref r1), (2, .int a2), (5, .int x3)]) hx hb dX0_thingOf_47 rfl hl (by decide) rfl (fun ls hl => ?_)
          obtain ⟨x11, ex11⟩ : ∃ y : Int32, y = x3 + 1 := ⟨_, rfl⟩
          have hf := nc_let_at hf ex11
          refine lv_iinc (v := x11) (lv' := [(5, .int x11), (3, .int x10), (4, .int q7), (0, .ref o), (1, .ref r1), (2, .int a2)]) hx hb dX0_thingOf_48 hl (k := 5) rfl (by rw [ex11]; rfl) (by decide) rfl (fun ls hl => ?_)
          refine lv_goto (tgt := 9) hx hb dX0_thingOf_51 (by decide) ?_
          exact ihrc4 _ _ _ hf _ _ _ hw (lv_sub hl [3, 4, 5, 1, 2, 0] rfl)
abbrev rm_X7_each : Room := { frames := 5, cells := 0, slots := 0, locals := 119 }
set_option maxRecDepth 100000 in
set_option maxHeartbeats 4000000 in
theorem c_X7_each (l : Launch) {G : nc_G} {K : nc_K} {o : Nat} (h0 : nc_LNC G K o) (mi : nc_Mem) (a1 : Int32) (res : nc_Mem × Int32) (hf : f_X7_each mi o a1 = some res) : nc_M l yX7_each cX7_each 3 (some .int) rm_X7_each 0 0 G K K [.ref o, .int a1] mi res.1 (some (.int res.2)) := by
  refine nc_meet_i (by decide) (Nat.le_of_ble_eq_true rfl) ?_
  intro p e s m args below meth c Q H locs ls cx hret hw hl
  have cx : nc_C p s m args c cX7_each 3 RX7 G := cx
  have hl : lv_has ls 3 [(0, .ref o), (1, .int a1)] := hl
  have hx := cx.1
  have hb := cx.2.1
  unfold f_X7_each at hf
  refine lv_iload_n hx hb dX7_each_0 rfl (lv_at hl 1 rfl) ?_
  refine lv_iconst (v := (-1)) hx hb dX7_each_1 (by decide) ?_
  obtain ⟨k1, ek1, hf⟩ := nc_jn_of hf
  have hk1 : k1 = some res → ∀ (H : Heap) (locs : List Loc) (ls : Array Slot), nc_W G K mi H locs → lv_has ls 3 [(0, .ref o), (1, .int a1)] → W p l e rm_X7_each s m args below meth c H locs 0 0 Q (F0 m 22 ls []) := by
    intro hf H locs ls hw hl
    have hf := (ek1).symm.trans hf
    refine lv_aload_n hx hb dX7_each_22 rfl (lv_at hl 0 rfl) ?_
    refine gr_X7_41 cx hw (lNC_is h0) (lNC_deal h0) (lDeal_is (lNC_deal_L h0)) dX7_each_23 ?_
    refine lv_aload_n hx hb dX7_each_26 rfl (lv_at hl 0 rfl) ?_
    refine gr_X7_10 cx hw (lNC_is h0) (lNC_now h0) (lTown_is (lNC_now_L h0)) dX7_each_27 ?_
    refine lv_bipush (v := (-9)) hx hb dX7_each_30 (by decide) ?_
    obtain ⟨q2, hq2, hf⟩ := nc_bi hf
    refine nc_callVi cx hw lk_X7_186 (c_X0_bestSum l (lNC_deal_L h0) (lNC_now_L h0) mi (-9) q2 hq2) (ci := 0) rfl (lDeal_is (lNC_deal_L h0)) rfl hl.1 rfl (Nat.le_of_ble_eq_true rfl) ⟨rfl, rfl, Nat.le_of_ble_eq_true rfl, Nat.le_of_ble_eq_true rfl⟩ dX7_each_32 (fun H locs hw => ?_)
    refine lv_istore_n (lv' := [(2, .int q2.2), (0, .ref o), (1, .int a1)]) hx hb dX7_each_35 rfl hl (by decide) rfl (fun ls hl => ?_)
    refine lv_iload_n hx hb dX7_each_36 rfl (lv_at hl 2 rfl) ?_
    refine lv_if_ge (tgt := 44) hx hb dX7_each_37 (by decide) (fun c3 => ?_) (fun c3 => ?_)
    · have hf := nc_ifp hf c3
      refine lv_aload_n hx hb dX7_each_44 rfl (lv_at hl 1 rfl) ?_
      refine gr_X7_41 cx hw (lNC_is h0) (lNC_deal h0) (lDeal_is (lNC_deal_L h0)) dX7_each_45 ?_
      refine lv_aload_n hx hb dX7_each_48 rfl (lv_at hl 1 rfl) ?_
      refine gr_X7_10 cx hw (lNC_is h0) (lNC_now h0) (lTown_is (lNC_now_L h0)) dX7_each_49 ?_
      refine lv_iload_n hx hb dX7_each_52 rfl (lv_at hl 2 rfl) ?_
      obtain ⟨q4, hq4, hf⟩ := nc_bi hf
      refine nc_callVi cx hw lk_X7_190 (c_X0_thingOf l (lNC_deal_L h0) (lNC_now_L h0) q2.1 a1 q4 hq4) (ci := 0) rfl (lDeal_is (lNC_deal_L h0)) rfl hl.1 rfl (Nat.le_of_ble_eq_true rfl) ⟨rfl, rfl, Nat.le_of_ble_eq_true rfl, Nat.le_of_ble_eq_true rfl⟩ dX7_each_53 (fun H locs hw => ?_)
      exact nc_rpm hret hf rfl hw dX7_each_56
    · have hf := nc_ifn hf c3
      refine lv_iload_n hx hb dX7_each_40 rfl (lv_at hl 0 rfl) ?_
      refine lv_goto (tgt := 56) hx hb dX7_each_41 (by decide) ?_
      exact nc_rpm hret hf rfl hw dX7_each_56
  refine lv_icmp_eq (tgt := 22) hx hb dX7_each_2 (by decide) (fun c5 => ?_) (fun c5 => ?_)
  · have hf := nc_ifp hf c5
    exact hk1 hf _ _ _ hw (lv_sub hl [0, 1] rfl)
  · have hf := nc_ifn hf c5
    refine lv_aload_n hx hb dX7_each_5 rfl (lv_at hl 0 rfl) ?_
    refine gr_X7_10 cx hw (lNC_is h0) (lNC_now h0) (lTown_is (lNC_now_L h0)) dX7_each_6 ?_
    refine lv_iload_n hx hb dX7_each_9 rfl (lv_at hl 1 rfl) ?_
    refine nc_callVi cx hw lk_X7_86 (c_X5_isPerson l (lNC_now_L h0) mi a1 _ rfl) (ci := 5) rfl (lTown_is (lNC_now_L h0)) rfl hl.1 rfl (Nat.le_of_ble_eq_true rfl) ⟨rfl, rfl, Nat.le_of_ble_eq_true rfl, Nat.le_of_ble_eq_true rfl⟩ dX7_each_10 (fun H locs hw => ?_)
    refine lv_if_ne (tgt := 22) hx hb dX7_each_13 (by decide) (fun c6 => ?_) (fun c6 => ?_)
    · have hf := nc_ifn hf c6
      exact hk1 hf _ _ _ hw (lv_sub hl [0, 1] rfl)
    · have hf := nc_ifp hf c6
      refine lv_aload_n hx hb dX7_each_16 rfl (lv_at hl 0 rfl) ?_
      refine lv_iconst (v := (-1)) hx hb dX7_each_17 (by decide) ?_
      obtain ⟨q7, hq7, hf⟩ := nc_bi hf
      refine nc_callVi cx hw lk_X7_60 (c_X7_refuse l h0 mi (-1) q7 hq7) (ci := 7) rfl (lNC_is h0) rfl hl.1 rfl (Nat.le_of_ble_eq_true rfl) ⟨rfl, rfl, Nat.le_of_ble_eq_true rfl, Nat.le_of_ble_eq_true rfl⟩ dX7_each_18 (fun H locs hw => ?_)
      exact nc_rpm hret hf rfl hw dX7_each_21
abbrev rm_X7_pay : Room := { frames := 5, cells := 0, slots := 0, locals := 119 }
set_option maxRecDepth 100000 in
set_option maxHeartbeats 4000000 in
theorem c_X7_pay (l : Launch) {G : nc_G} {K : nc_K} {o : Nat} (h0 : nc_LNC G K o) (mi : nc_Mem) (a1 : Int32) (res : nc_Mem × Int32) (hf : f_X7_pay mi o a1 = some res) : nc_M l yX7_pay cX7_pay 2 (some .int) rm_X7_pay 0 0 G K K [.ref o, .int a1] mi res.1 (some (.int res.2)) := by
  refine nc_meet_i (by decide) (Nat.le_of_ble_eq_true rfl) ?_
  intro p e s m args below meth c Q H locs ls cx hret hw hl
  have cx : nc_C p s m args c cX7_pay 2 RX7 G := cx
  have hl : lv_has ls 2 [(0, .ref o), (1, .int a1)] := hl
  have hx := cx.1
  have hb := cx.2.1
  unfold f_X7_pay at hf
  refine lv_aload_n hx hb dX7_pay_0 rfl (lv_at hl 0 rfl) ?_
  refine gr_X7_10 cx hw (lNC_is h0) (lNC_now h0) (lTown_is (lNC_now_L h0)) dX7_pay_1 ?_
  refine lv_iload_n hx hb dX7_pay_4 rfl (lv_at hl 1 rfl) ?_
  refine nc_callVi cx hw lk_X7_86 (c_X5_isPerson l (lNC_now_L h0) mi a1 _ rfl) (ci := 5) rfl (lTown_is (lNC_now_L h0)) rfl hl.1 rfl (Nat.le_of_ble_eq_true rfl) ⟨rfl, rfl, Nat.le_of_ble_eq_true rfl, Nat.le_of_ble_eq_true rfl⟩ dX7_pay_5 (fun H locs hw => ?_)
  refine lv_if_ne (tgt := 17) hx hb dX7_pay_8 (by decide) (fun c1 => ?_) (fun c1 => ?_)
  · have hf := nc_ifn hf c1
    refine lv_aload_n hx hb dX7_pay_17 rfl (lv_at hl 0 rfl) ?_
    refine gr_X7_41 cx hw (lNC_is h0) (lNC_deal h0) (lDeal_is (lNC_deal_L h0)) dX7_pay_18 ?_
    refine lv_aload_n hx hb dX7_pay_21 rfl (lv_at hl 0 rfl) ?_
    refine gr_X7_10 cx hw (lNC_is h0) (lNC_now h0) (lTown_is (lNC_now_L h0)) dX7_pay_22 ?_
    refine lv_bipush (v := (-9)) hx hb dX7_pay_25 (by decide) ?_
    obtain ⟨q2, hq2, hf⟩ := nc_bi hf
    refine nc_callVi cx hw lk_X7_186 (c_X0_bestSum l (lNC_deal_L h0) (lNC_now_L h0) mi (-9) q2 hq2) (ci := 0) rfl (lDeal_is (lNC_deal_L h0)) rfl hl.1 rfl (Nat.le_of_ble_eq_true rfl) ⟨rfl, rfl, Nat.le_of_ble_eq_true rfl, Nat.le_of_ble_eq_true rfl⟩ dX7_pay_27 (fun H locs hw => ?_)
    refine lv_aload_n hx hb dX7_pay_30 rfl (lv_at hl 0 rfl) ?_
    refine gr_X7_41 cx hw (lNC_is h0) (lNC_deal h0) (lDeal_is (lNC_deal_L h0)) dX7_pay_31 ?_
    refine lv_aload_n hx hb dX7_pay_34 rfl (lv_at hl 0 rfl) ?_
    refine gr_X7_10 cx hw (lNC_is h0) (lNC_now h0) (lTown_is (lNC_now_L h0)) dX7_pay_35 ?_
    refine lv_iload_n hx hb dX7_pay_38 rfl (lv_at hl 1 rfl) ?_
    obtain ⟨q3, hq3, hf⟩ := nc_bi hf
    refine nc_callVi cx hw lk_X7_186 (c_X0_bestSum l (lNC_deal_L h0) (lNC_now_L h0) q2.1 a1 q3 hq3) (ci := 0) rfl (lDeal_is (lNC_deal_L h0)) rfl hl.1 rfl (Nat.le_of_ble_eq_true rfl) ⟨rfl, rfl, Nat.le_of_ble_eq_true rfl, Nat.le_of_ble_eq_true rfl⟩ dX7_pay_39 (fun H locs hw => ?_)
    refine lv_isub hx hb dX7_pay_42 ?_
    exact nc_rpm hret hf rfl hw dX7_pay_43
  · have hf := nc_ifp hf c1
    refine lv_aload_n hx hb dX7_pay_11 rfl (lv_at hl 0 rfl) ?_
    refine lv_iconst (v := (-1)) hx hb dX7_pay_12 (by decide) ?_
    obtain ⟨q4, hq4, hf⟩ := nc_bi hf
    refine nc_callVi cx hw lk_X7_60 (c_X7_refuse l h0 mi (-1) q4 hq4) (ci := 7) rfl (lNC_is h0) rfl hl.1 rfl (Nat.le_of_ble_eq_true rfl) ⟨rfl, rfl, Nat.le_of_ble_eq_true rfl, Nat.le_of_ble_eq_true rfl⟩ dX7_pay_13 (fun H locs hw => ?_)
    exact nc_rpm hret hf rfl hw dX7_pay_16
abbrev rm_X2_isInTime : Room := { frames := 4, cells := 0, slots := 0, locals := 102 }
set_option maxRecDepth 100000 in
set_option maxHeartbeats 4000000 in
theorem c_X2_isInTime (l : Launch) {G : nc_G} {K : nc_K} {o : Nat} (h0 : nc_LNC G K o) (mi : nc_Mem) (a1 : Int32) (res : nc_Mem × Int32) (hf : f_X2_isInTime mi o a1 = some res) : nc_M l yX2_isInTime cX2_isInTime 3 (some .boolean) rm_X2_isInTime 0 0 G K K [.ref (o + 55), .int a1] mi res.1 (some (.int res.2)) := by
  refine nc_meet_i (by decide) (Nat.le_of_ble_eq_true rfl) ?_
  intro p e s m args below meth c Q H locs ls cx hret hw hl
  have cx : nc_C p s m args c cX2_isInTime 3 RX2 G := cx
  have hl : lv_has ls 3 [(0, .ref (o + 55)), (1, .int a1)] := hl
  have hx := cx.1
  have hb := cx.2.1
  unfold f_X2_isInTime at hf
  refine lv_aload_n hx hb dX2_isInTime_0 rfl (lv_at hl 0 rfl) ?_
  refine lv_iload_n hx hb dX2_isInTime_1 rfl (lv_at hl 1 rfl) ?_
  obtain ⟨q1, hq1, hf⟩ := nc_bi hf
  refine nc_callVi cx hw lk_X2_121 (c_X2_soonestOf l h0 mi a1 q1 hq1) (ci := 2) rfl (lNC_mind_L h0) rfl hl.1 rfl (Nat.le_of_ble_eq_true rfl) ⟨rfl, rfl, Nat.le_of_ble_eq_true rfl, Nat.le_of_ble_eq_true rfl⟩ dX2_isInTime_2 (fun H locs hw => ?_)
  refine lv_istore_n (lv' := [(2, .int q1.2), (0, .ref (o + 55)), (1, .int a1)]) hx hb dX2_isInTime_5 rfl hl (by decide) rfl (fun ls hl => ?_)
  refine lv_iload_n hx hb dX2_isInTime_6 rfl (lv_at hl 0 rfl) ?_
  refine lv_bipush (v := (-9)) hx hb dX2_isInTime_7 (by decide) ?_
  refine lv_icmp_eq (tgt := 32) hx hb dX2_isInTime_9 (by decide) (fun c2 => ?_) (fun c2 => ?_)
  · have hf := nc_ifp hf c2
    refine lv_iconst (v := 0) hx hb dX2_isInTime_32 (by decide) ?_
    exact nc_rpm hret hf rfl hw dX2_isInTime_33
  · have hf := nc_ifn hf c2
    refine lv_iload_n hx hb dX2_isInTime_12 rfl (lv_at hl 0 rfl) ?_
    refine lv_aload_n hx hb dX2_isInTime_13 rfl (lv_at hl 1 rfl) ?_
    refine gr_X2_24 cx hw (lNC_mind_L h0) (lNC_m_town h0) (lTown_is (lNC_now_L h0)) dX2_isInTime_14 ?_
    refine gr_X2_75 cx hw (lTown_is (lNC_now_L h0)) (lTown_goods (lNC_now_L h0)) (lTown_goods_L (lNC_now_L h0)) dX2_isInTime_17 ?_
    refine lv_iload_n hx hb dX2_isInTime_20 rfl (lv_at hl 2 rfl) ?_
    obtain ⟨j3, ej3, ij3, lj3, hf⟩ := nc_ix hf
    refine nc_ald cx hw (by decide) (lTown_goods_L (lNC_now_L h0)) ij3 ej3 ((lTown_goods_E (lNC_now_L h0) j3 lj3)).1 (lThing_is ((lTown_goods_E (lNC_now_L h0) j3 lj3)).2) dX2_isInTime_21 ?_
    refine gi_X2_124 cx hw (lThing_is ((lTown_goods_E (lNC_now_L h0) j3 lj3)).2) dX2_isInTime_22 ?_
    refine lv_icmp_gt (tgt := 32) hx hb dX2_isInTime_25 (by decide) (fun c4 => ?_) (fun c4 => ?_)
    · have hf := nc_ifp hf c4
      refine lv_iconst (v := 0) hx hb dX2_isInTime_32 (by decide) ?_
      exact nc_rpm hret hf rfl hw dX2_isInTime_33
    · have hf := nc_ifn hf c4
      refine lv_iconst (v := 1) hx hb dX2_isInTime_28 (by decide) ?_
      refine lv_goto (tgt := 33) hx hb dX2_isInTime_29 (by decide) ?_
      exact nc_rpm hret hf rfl hw dX2_isInTime_33
abbrev rm_X5_strangerCanBring : Room := { frames := 2, cells := 0, slots := 0, locals := 43 }
set_option maxRecDepth 100000 in
set_option maxHeartbeats 4000000 in
theorem c_X5_strangerCanBring (l : Launch) {G : nc_G} {K : nc_K} {o : Nat} (h0 : nc_LTown G K o) (mi : nc_Mem) (a1 : Int32) (res : Int32) (hf : f_X5_strangerCanBring mi o a1 = some res) : nc_M l yX5_strangerCanBring cX5_strangerCanBring 3 (some .boolean) rm_X5_strangerCanBring 0 0 G K K [.ref o, .int a1] mi mi (some (.int res)) := by
  refine nc_meet_i (by decide) (Nat.le_of_ble_eq_true rfl) ?_
  intro p e s m args below meth c Q H locs ls cx hret hw hl
  have cx : nc_C p s m args c cX5_strangerCanBring 3 RX5 G := cx
  have hl : lv_has ls 3 [(0, .ref o), (1, .int a1)] := hl
  have hx := cx.1
  have hb := cx.2.1
  unfold f_X5_strangerCanBring at hf
  refine lv_aload_n hx hb dX5_strangerCanBring_0 rfl (lv_at hl 0 rfl) ?_
  refine gr_X5_19 cx hw (lTown_is h0) (lTown_goods h0) (lTown_goods_L h0) dX5_strangerCanBring_1 ?_
  refine lv_iload_n hx hb dX5_strangerCanBring_4 rfl (lv_at hl 1 rfl) ?_
  obtain ⟨j1, ej1, ij1, lj1, hf⟩ := nc_ix hf
  refine nc_ald cx hw (by decide) (lTown_goods_L h0) ij1 ej1 ((lTown_goods_E h0 j1 lj1)).1 (lThing_is ((lTown_goods_E h0 j1 lj1)).2) dX5_strangerCanBring_5 ?_
  refine lv_astore_n (lv' := [(2, .ref (o + 11 + j1)), (0, .ref o), (1, .int a1)]) hx hb dX5_strangerCanBring_6 rfl hl (by decide) rfl (fun ls hl => ?_)
  refine lv_aload_n hx hb dX5_strangerCanBring_7 rfl (lv_at hl 1 rfl) ?_
  refine lv_iconst (v := 0) hx hb dX5_strangerCanBring_8 (by decide) ?_
  refine lv_aload_n hx hb dX5_strangerCanBring_9 rfl (lv_at hl 0 rfl) ?_
  refine gi_X5_95 cx hw (lThing_is ((lTown_goods_E h0 j1 lj1)).2) dX5_strangerCanBring_10 ?_
  obtain ⟨q2, hq2, hf⟩ := nc_bi hf
  refine nc_callVi cx hw lk_X5_161 (c_X5_leastBetween l h0 mi 0 (mi (o + 11 + j1) 2) q2 hq2) (ci := 5) rfl (lTown_is h0) rfl hl.1 rfl (Nat.le_of_ble_eq_true rfl) ⟨rfl, rfl, Nat.le_of_ble_eq_true rfl, Nat.le_of_ble_eq_true rfl⟩ dX5_strangerCanBring_13 (fun H locs hw => ?_)
  refine lv_aload_n hx hb dX5_strangerCanBring_16 rfl (lv_at hl 1 rfl) ?_
  refine lv_aload_n hx hb dX5_strangerCanBring_17 rfl (lv_at hl 0 rfl) ?_
  refine gi_X5_95 cx hw (lThing_is ((lTown_goods_E h0 j1 lj1)).2) dX5_strangerCanBring_18 ?_
  refine lv_aload_n hx hb dX5_strangerCanBring_21 rfl (lv_at hl 0 rfl) ?_
  refine gi_X5_96 cx hw (lThing_is ((lTown_goods_E h0 j1 lj1)).2) dX5_strangerCanBring_22 ?_
  obtain ⟨q3, hq3, hf⟩ := nc_bi hf
  refine nc_callVi cx hw lk_X5_161 (c_X5_leastBetween l h0 mi (mi (o + 11 + j1) 2) (mi (o + 11 + j1) 3) q3 hq3) (ci := 5) rfl (lTown_is h0) rfl hl.1 rfl (Nat.le_of_ble_eq_true rfl) ⟨rfl, rfl, Nat.le_of_ble_eq_true rfl, Nat.le_of_ble_eq_true rfl⟩ dX5_strangerCanBring_25 (fun H locs hw => ?_)
  refine lv_iadd hx hb dX5_strangerCanBring_28 ?_
  refine lv_aload_n hx hb dX5_strangerCanBring_29 rfl (lv_at hl 0 rfl) ?_
  refine gi_X5_127 cx hw (lThing_is ((lTown_goods_E h0 j1 lj1)).2) dX5_strangerCanBring_30 ?_
  refine lv_icmp_gt (tgt := 40) hx hb dX5_strangerCanBring_33 (by decide) (fun c4 => ?_) (fun c4 => ?_)
  · have hf := nc_ifp hf c4
    refine lv_iconst (v := 0) hx hb dX5_strangerCanBring_40 (by decide) ?_
    exact nc_rpp hret hf rfl hw dX5_strangerCanBring_41
  · have hf := nc_ifn hf c4
    refine lv_iconst (v := 1) hx hb dX5_strangerCanBring_36 (by decide) ?_
    refine lv_goto (tgt := 41) hx hb dX5_strangerCanBring_37 (by decide) ?_
    exact nc_rpp hret hf rfl hw dX5_strangerCanBring_41
abbrev rm_X7_fewest : Room := { frames := 6, cells := 0, slots := 0, locals := 141 }
set_option maxRecDepth 100000 in
set_option maxHeartbeats 4000000 in
theorem c_X7_fewest (l : Launch) {G : nc_G} {K : nc_K} {o : Nat} (h0 : nc_LNC G K o) (mi : nc_Mem)  (res : nc_Mem × Int32) (hf : f_X7_fewest mi o = some res) : nc_M l yX7_fewest cX7_fewest 3 (some .int) rm_X7_fewest 0 0 G K K [.ref o] mi res.1 (some (.int res.2)) := by
  refine nc_meet_i (by decide) (Nat.le_of_ble_eq_true rfl) ?_
  intro p e s m args below meth c Q H locs ls cx hret hw hl
  have cx : nc_C p s m args c cX7_fewest 3 RX7 G := cx
  have hl : lv_has ls 3 [(0, .ref o)] := hl
  have hx := cx.1
  have hb := cx.2.1
  unfold f_X7_fewest at hf
  refine lv_aload_n hx hb dX7_fewest_0 rfl (lv_at hl 0 rfl) ?_
  refine gr_X7_34 cx hw (lNC_is h0) (lNC_mind h0) (lNC_mind_L h0) dX7_fewest_1 ?_
  obtain ⟨q1, hq1, hf⟩ := nc_bi hf
  refine nc_callVv cx hw lk_X7_155 (c_X2_recall l h0 mi  q1 hq1) (ci := 2) rfl (lNC_mind_L h0) rfl hl.1 rfl (Nat.le_of_ble_eq_true rfl) ⟨rfl, rfl, Nat.le_of_ble_eq_true rfl, Nat.le_of_ble_eq_true rfl⟩ dX7_fewest_4 (fun H locs hw => ?_)
  refine lv_iconst (v := 0) hx hb dX7_fewest_7 (by decide) ?_
  refine lv_istore_n (lv' := [(1, .int 0), (0, .ref o)]) hx hb dX7_fewest_8 rfl hl (by decide) rfl (fun ls hl => ?_)
  refine lv_iconst (v := 0) hx hb dX7_fewest_9 (by decide) ?_
  refine lv_istore_n (lv' := [(2, .int 0), (1, .int 0), (0, .ref o)]) hx hb dX7_fewest_10 rfl hl (by decide) rfl (fun ls hl => ?_)
  refine nc_loop_w (P := fun κ : Int32 → Int32 → nc_Mem → Option (nc_Mem × Int32) => ∀ (x2 : Int32) (x3 : Int32) (mi4 : nc_Mem), κ x2 x3 mi4 = some res → ∀ (H : Heap) (locs : List Loc) (ls : Array Slot), nc_W G K mi4 H locs → lv_has ls 3 [(0, .ref o), (1, .int x2), (2, .int x3)] → W p l e rm_X7_fewest s m args below meth c H locs 0 0 Q (F0 m 11 ls [])) ?_ ?_ 200 _ _ _ hf _ _ _ hw (lv_sub hl [2, 1, 0] rfl)
  · intro x2 x3 mi4 hf; exact absurd hf (by intro q; cases q)
  · intro rc5 ihrc5 x2 x3 mi4 hf H locs ls hw hl
    unfold B_X7_fewest_11 at hf
    refine lv_iload_n hx hb dX7_fewest_11 rfl (lv_at hl 2 rfl) ?_
    refine lv_aload_n hx hb dX7_fewest_12 rfl (lv_at hl 0 rfl) ?_
    refine gr_X7_10 cx hw (lNC_is h0) (lNC_now h0) (lTown_is (lNC_now_L h0)) dX7_fewest_13 ?_
    refine gi_X7_140 cx hw (lTown_is (lNC_now_L h0)) dX7_fewest_16 ?_
    refine lv_icmp_ge (tgt := 59) hx hb dX7_fewest_19 (by decide) (fun c6 => ?_) (fun c6 => ?_)
    · have hf := nc_ifp hf c6
      refine lv_iload_n hx hb dX7_fewest_59 rfl (lv_at hl 1 rfl) ?_
      exact nc_rpm hret hf rfl hw dX7_fewest_60
    · have hf := nc_ifn hf c6
      refine lv_aload_n hx hb dX7_fewest_22 rfl (lv_at hl 0 rfl) ?_
      refine gr_X7_34 cx hw (lNC_is h0) (lNC_mind h0) (lNC_mind_L h0) dX7_fewest_23 ?_
      refine lv_iload_n hx hb dX7_fewest_26 rfl (lv_at hl 2 rfl) ?_
      obtain ⟨q7, hq7, hf⟩ := nc_bi hf
      refine nc_callVi cx hw lk_X7_193 (c_X2_isInTime l h0 mi4 x3 q7 hq7) (ci := 2) rfl (lNC_mind_L h0) rfl hl.1 rfl (Nat.le_of_ble_eq_true rfl) ⟨rfl, rfl, Nat.le_of_ble_eq_true rfl, Nat.le_of_ble_eq_true rfl⟩ dX7_fewest_27 (fun H locs hw => ?_)
      refine lv_if_eq (tgt := 36) hx hb dX7_fewest_30 (by decide) (fun c8 => ?_) (fun c8 => ?_)
      · have hf := nc_ifp hf c8
        refine lv_aload_n hx hb dX7_fewest_36 rfl (lv_at hl 0 rfl) ?_
        refine gr_X7_10 cx hw (lNC_is h0) (lNC_now h0) (lTown_is (lNC_now_L h0)) dX7_fewest_37 ?_
        refine lv_iload_n hx hb dX7_fewest_40 rfl (lv_at hl 2 rfl) ?_
        obtain ⟨q9, hq9, hf⟩ := nc_bi hf
        refine nc_callVi cx hw lk_X7_196 (c_X5_strangerCanBring l (lNC_now_L h0) q7.1 x3 q9 hq9) (ci := 5) rfl (lTown_is (lNC_now_L h0)) rfl hl.1 rfl (Nat.le_of_ble_eq_true rfl) ⟨rfl, rfl, Nat.le_of_ble_eq_true rfl, Nat.le_of_ble_eq_true rfl⟩ dX7_fewest_41 (fun H locs hw => ?_)
        refine lv_if_ne (tgt := 50) hx hb dX7_fewest_44 (by decide) (fun c10 => ?_) (fun c10 => ?_)
        · have hf := nc_ifn hf c10
          obtain ⟨x11, ex11⟩ : ∃ y : Int32, y = x2 + 1 := ⟨_, rfl⟩
          have hf := nc_let_at hf ex11
          refine lv_iinc (v := x11) (lv' := [(1, .int x11), (0, .ref o), (2, .int x3)]) hx hb dX7_fewest_50 hl (k := 1) rfl (by rw [ex11]; rfl) (by decide) rfl (fun ls hl => ?_)
          obtain ⟨x12, ex12⟩ : ∃ y : Int32, y = x3 + 1 := ⟨_, rfl⟩
          have hf := nc_let_at hf ex12
          refine lv_iinc (v := x12) (lv' := [(2, .int x12), (1, .int x11), (0, .ref o)]) hx hb dX7_fewest_53 hl (k := 2) rfl (by rw [ex12]; rfl) (by decide) rfl (fun ls hl => ?_)
          refine lv_goto (tgt := 11) hx hb dX7_fewest_56 (by decide) ?_
          exact ihrc5 _ _ _ hf _ _ _ hw (lv_sub hl [2, 1, 0] rfl)
        · have hf := nc_ifp hf c10
          refine lv_bipush (v := (-9)) hx hb dX7_fewest_47 (by decide) ?_
          exact nc_rpm hret hf rfl hw dX7_fewest_49
      · have hf := nc_ifn hf c8
        refine lv_goto (tgt := 53) hx hb dX7_fewest_33 (by decide) ?_
        obtain ⟨x13, ex13⟩ : ∃ y : Int32, y = x3 + 1 := ⟨_, rfl⟩
        have hf := nc_let_at hf ex13
        refine lv_iinc (v := x13) (lv' := [(2, .int x13), (0, .ref o), (1, .int x2)]) hx hb dX7_fewest_53 hl (k := 2) rfl (by rw [ex13]; rfl) (by decide) rfl (fun ls hl => ?_)
        refine lv_goto (tgt := 11) hx hb dX7_fewest_56 (by decide) ?_
        exact ihrc5 _ _ _ hf _ _ _ hw (lv_sub hl [1, 2, 0] rfl)
