abbrev rm_X5_layDown : Room := { frames := 0, cells := 0, slots := 0, locals := 0 }
set_option maxRecDepth 100000 in
set_option maxHeartbeats 4000000 in
theorem c_X5_layDown (l : Launch) {G : nc_G} {K : nc_K} {o : Nat} (h0 : nc_LTown G K o) (mi : nc_Mem) (a1 a2 : Int32) (res : nc_Mem × Int32) (hf : f_X5_layDown mi o a1 a2 = some res) : nc_M l yX5_layDown cX5_layDown 3 (some .boolean) rm_X5_layDown 0 0 G K K [.ref o, .int a1, .int a2] mi res.1 (some (.int res.2)) := by
  refine nc_meet_i (by decide) (Nat.le_of_ble_eq_true rfl) ?_
  intro p e s m args below meth c Q H locs ls cx hret hw hl
  have cx : nc_C p s m args c cX5_layDown 3 RX5 G := cx
  have hl : lv_has ls 3 [(0, .ref o), (1, .int a1), (2, .int a2)] := hl
  have hx := cx.1
  have hb := cx.2.1
  unfold f_X5_layDown at hf
  refine lv_aload_n hx hb dX5_layDown_0 rfl (lv_at hl 0 rfl) ?_
  refine gr_X5_19 cx hw (lTown_is h0) (lTown_goods h0) (lTown_goods_L h0) dX5_layDown_1 ?_
  refine lv_iload_n hx hb dX5_layDown_4 rfl (lv_at hl 2 rfl) ?_
  obtain ⟨j1, ej1, ij1, lj1, hf⟩ := nc_ix hf
  refine nc_ald cx hw (by decide) (lTown_goods_L h0) ij1 ej1 ((lTown_goods_E h0 j1 lj1)).1 (lThing_is ((lTown_goods_E h0 j1 lj1)).2) dX5_layDown_5 ?_
  refine gi_X5_97 cx hw (lThing_is ((lTown_goods_E h0 j1 lj1)).2) dX5_layDown_6 ?_
  refine lv_bipush (v := 10) hx hb dX5_layDown_9 (by decide) ?_
  refine lv_iload_n hx hb dX5_layDown_11 rfl (lv_at hl 1 rfl) ?_
  refine lv_iadd hx hb dX5_layDown_12 ?_
  refine lv_icmp_eq (tgt := 18) hx hb dX5_layDown_13 (by decide) (fun c2 => ?_) (fun c2 => ?_)
  · have hf := nc_ifp hf c2
    refine lv_aload_n hx hb dX5_layDown_18 rfl (lv_at hl 0 rfl) ?_
    refine gr_X5_19 cx hw (lTown_is h0) (lTown_goods h0) (lTown_goods_L h0) dX5_layDown_19 ?_
    refine lv_iload_n hx hb dX5_layDown_22 rfl (lv_at hl 2 rfl) ?_
    refine nc_ald cx hw (by decide) (lTown_goods_L h0) ij1 ej1 ((lTown_goods_E h0 j1 lj1)).1 (lThing_is ((lTown_goods_E h0 j1 lj1)).2) dX5_layDown_23 ?_
    refine lv_aload_n hx hb dX5_layDown_24 rfl (lv_at hl 0 rfl) ?_
    refine gr_X5_11 cx hw (lTown_is h0) (lTown_people h0) (lTown_people_L h0) dX5_layDown_25 ?_
    refine lv_iload_n hx hb dX5_layDown_28 rfl (lv_at hl 1 rfl) ?_
    obtain ⟨j3, ej3, ij3, lj3, hf⟩ := nc_ix hf
    refine nc_ald cx hw (by decide) (lTown_people_L h0) ij3 ej3 ((lTown_people_E h0 j3 lj3)).1 (lPerson_is ((lTown_people_E h0 j3 lj3)).2) dX5_layDown_29 ?_
    refine gi_X5_86 cx hw (lPerson_is ((lTown_people_E h0 j3 lj3)).2) dX5_layDown_30 ?_
    refine pi_X5_97 cx hw (lThing_is ((lTown_goods_E h0 j1 lj1)).2) dX5_layDown_33 (fun mi4 H locs emi4 hw => ?_)
    have hf := nc_let_at hf emi4
    refine lv_aload_n hx hb dX5_layDown_36 rfl (lv_at hl 0 rfl) ?_
    refine gr_X5_19 cx hw (lTown_is h0) (lTown_goods h0) (lTown_goods_L h0) dX5_layDown_37 ?_
    refine lv_iload_n hx hb dX5_layDown_40 rfl (lv_at hl 2 rfl) ?_
    refine nc_ald cx hw (by decide) (lTown_goods_L h0) ij1 ej1 ((lTown_goods_E h0 j1 lj1)).1 (lThing_is ((lTown_goods_E h0 j1 lj1)).2) dX5_layDown_41 ?_
    refine lv_aload_n hx hb dX5_layDown_42 rfl (lv_at hl 0 rfl) ?_
    refine gr_X5_11 cx hw (lTown_is h0) (lTown_people h0) (lTown_people_L h0) dX5_layDown_43 ?_
    refine lv_iload_n hx hb dX5_layDown_46 rfl (lv_at hl 1 rfl) ?_
    refine nc_ald cx hw (by decide) (lTown_people_L h0) ij3 ej3 ((lTown_people_E h0 j3 lj3)).1 (lPerson_is ((lTown_people_E h0 j3 lj3)).2) dX5_layDown_47 ?_
    refine gi_X5_112 cx hw (lPerson_is ((lTown_people_E h0 j3 lj3)).2) dX5_layDown_48 ?_
    refine pi_X5_133 cx hw (lThing_is ((lTown_goods_E h0 j1 lj1)).2) dX5_layDown_51 (fun mi5 H locs emi5 hw => ?_)
    have hf := nc_let_at hf emi5
    refine lv_iconst (v := 1) hx hb dX5_layDown_54 (by decide) ?_
    exact nc_rpm hret hf rfl hw dX5_layDown_55
  · have hf := nc_ifn hf c2
    refine lv_iconst (v := 0) hx hb dX5_layDown_16 (by decide) ?_
    exact nc_rpm hret hf rfl hw dX5_layDown_17
abbrev rm_X7_lay : Room := { frames := 1, cells := 0, slots := 0, locals := 22 }
set_option maxRecDepth 100000 in
set_option maxHeartbeats 4000000 in
theorem c_X7_lay (l : Launch) {G : nc_G} {K : nc_K} {o : Nat} (h0 : nc_LNC G K o) (mi : nc_Mem) (a1 a2 : Int32) (res : nc_Mem × Int32) (hf : f_X7_lay mi o a1 a2 = some res) : nc_M l yX7_lay cX7_lay 3 (some .int) rm_X7_lay 0 0 G K K [.ref o, .int a1, .int a2] mi res.1 (some (.int res.2)) := by
  refine nc_meet_i (by decide) (Nat.le_of_ble_eq_true rfl) ?_
  intro p e s m args below meth c Q H locs ls cx hret hw hl
  have cx : nc_C p s m args c cX7_lay 3 RX7 G := cx
  have hl : lv_has ls 3 [(0, .ref o), (1, .int a1), (2, .int a2)] := hl
  have hx := cx.1
  have hb := cx.2.1
  unfold f_X7_lay at hf
  refine lv_aload_n hx hb dX7_lay_0 rfl (lv_at hl 0 rfl) ?_
  refine gr_X7_10 cx hw (lNC_is h0) (lNC_now h0) (lTown_is (lNC_now_L h0)) dX7_lay_1 ?_
  refine lv_iload_n hx hb dX7_lay_4 rfl (lv_at hl 1 rfl) ?_
  refine nc_callVi cx hw lk_X7_86 (c_X5_isPerson l (lNC_now_L h0) mi a1 _ rfl) (ci := 5) rfl (lTown_is (lNC_now_L h0)) rfl hl.1 rfl (Nat.le_of_ble_eq_true rfl) ⟨rfl, rfl, Nat.le_of_ble_eq_true rfl, Nat.le_of_ble_eq_true rfl⟩ dX7_lay_5 (fun H locs hw => ?_)
  obtain ⟨k1, ek1, hf⟩ := nc_jn_of hf
  have hk1 : k1 = some res → ∀ (H : Heap) (locs : List Loc) (ls : Array Slot), nc_W G K mi H locs → lv_has ls 3 [(0, .ref o)] → W p l e rm_X7_lay s m args below meth c H locs 0 0 Q (F0 m 22 ls []) := by
    intro hf H locs ls hw hl
    have hf := (ek1).symm.trans hf
    refine lv_aload_n hx hb dX7_lay_22 rfl (lv_at hl 0 rfl) ?_
    refine lv_iconst (v := (-1)) hx hb dX7_lay_23 (by decide) ?_
    obtain ⟨q2, hq2, hf⟩ := nc_bi hf
    refine nc_callVi cx hw lk_X7_60 (c_X7_refuse l h0 mi (-1) q2 hq2) (ci := 7) rfl (lNC_is h0) rfl hl.1 rfl (Nat.le_of_ble_eq_true rfl) ⟨rfl, rfl, Nat.le_of_ble_eq_true rfl, Nat.le_of_ble_eq_true rfl⟩ dX7_lay_24 (fun H locs hw => ?_)
    exact nc_rpm hret hf rfl hw dX7_lay_27
  refine lv_if_eq (tgt := 22) hx hb dX7_lay_8 (by decide) (fun c3 => ?_) (fun c3 => ?_)
  · have hf := nc_ifp hf c3
    exact hk1 hf _ _ _ hw (lv_sub hl [0] rfl)
  · have hf := nc_ifn hf c3
    refine lv_aload_n hx hb dX7_lay_11 rfl (lv_at hl 0 rfl) ?_
    refine gr_X7_10 cx hw (lNC_is h0) (lNC_now h0) (lTown_is (lNC_now_L h0)) dX7_lay_12 ?_
    refine lv_iload_n hx hb dX7_lay_15 rfl (lv_at hl 2 rfl) ?_
    refine nc_callVi cx hw lk_X7_101 (c_X5_isThing l (lNC_now_L h0) mi a2 _ rfl) (ci := 5) rfl (lTown_is (lNC_now_L h0)) rfl hl.1 rfl (Nat.le_of_ble_eq_true rfl) ⟨rfl, rfl, Nat.le_of_ble_eq_true rfl, Nat.le_of_ble_eq_true rfl⟩ dX7_lay_16 (fun H locs hw => ?_)
    refine lv_if_ne (tgt := 28) hx hb dX7_lay_19 (by decide) (fun c4 => ?_) (fun c4 => ?_)
    · have hf := nc_ifn hf c4
      refine lv_aload_n hx hb dX7_lay_28 rfl (lv_at hl 0 rfl) ?_
      refine gr_X7_10 cx hw (lNC_is h0) (lNC_now h0) (lTown_is (lNC_now_L h0)) dX7_lay_29 ?_
      refine lv_iload_n hx hb dX7_lay_32 rfl (lv_at hl 1 rfl) ?_
      refine lv_iload_n hx hb dX7_lay_33 rfl (lv_at hl 2 rfl) ?_
      obtain ⟨q5, hq5, hf⟩ := nc_bi hf
      refine nc_callVi cx hw lk_X7_128 (c_X5_layDown l (lNC_now_L h0) mi a1 a2 q5 hq5) (ci := 5) rfl (lTown_is (lNC_now_L h0)) rfl hl.1 rfl (Nat.le_of_ble_eq_true rfl) ⟨rfl, rfl, Nat.le_of_ble_eq_true rfl, Nat.le_of_ble_eq_true rfl⟩ dX7_lay_34 (fun H locs hw => ?_)
      refine lv_if_eq (tgt := 55) hx hb dX7_lay_37 (by decide) (fun c6 => ?_) (fun c6 => ?_)
      · have hf := nc_ifp hf c6
        refine lv_aload_n hx hb dX7_lay_55 rfl (lv_at hl 0 rfl) ?_
        refine lv_bipush (v := (-3)) hx hb dX7_lay_56 (by decide) ?_
        obtain ⟨q7, hq7, hf⟩ := nc_bi hf
        refine nc_callVi cx hw lk_X7_60 (c_X7_refuse l h0 q5.1 (-3) q7 hq7) (ci := 7) rfl (lNC_is h0) rfl hl.1 rfl (Nat.le_of_ble_eq_true rfl) ⟨rfl, rfl, Nat.le_of_ble_eq_true rfl, Nat.le_of_ble_eq_true rfl⟩ dX7_lay_58 (fun H locs hw => ?_)
        exact nc_rpm hret hf rfl hw dX7_lay_61
      · have hf := nc_ifn hf c6
        refine lv_aload_n hx hb dX7_lay_40 rfl (lv_at hl 0 rfl) ?_
        refine gr_X7_10 cx hw (lNC_is h0) (lNC_now h0) (lTown_is (lNC_now_L h0)) dX7_lay_41 ?_
        refine gr_X7_92 cx hw (lTown_is (lNC_now_L h0)) (lTown_people (lNC_now_L h0)) (lTown_people_L (lNC_now_L h0)) dX7_lay_44 ?_
        refine lv_iload_n hx hb dX7_lay_47 rfl (lv_at hl 1 rfl) ?_
        obtain ⟨j8, ej8, ij8, lj8, hf⟩ := nc_ix hf
        refine nc_ald cx hw (by decide) (lTown_people_L (lNC_now_L h0)) ij8 ej8 ((lTown_people_E (lNC_now_L h0) j8 lj8)).1 (lPerson_is ((lTown_people_E (lNC_now_L h0) j8 lj8)).2) dX7_lay_48 ?_
        refine gi_X7_122 cx hw (lPerson_is ((lTown_people_E (lNC_now_L h0) j8 lj8)).2) dX7_lay_49 ?_
        refine lv_goto (tgt := 61) hx hb dX7_lay_52 (by decide) ?_
        exact nc_rpm hret hf rfl hw dX7_lay_61
    · have hf := nc_ifp hf c4
      exact hk1 hf _ _ _ hw (lv_sub hl [0] rfl)
abbrev rm_X5_handOver : Room := { frames := 2, cells := 0, slots := 0, locals := 50 }
set_option maxRecDepth 100000 in
set_option maxHeartbeats 4000000 in
theorem c_X5_handOver (l : Launch) {G : nc_G} {K : nc_K} {o : Nat} (h0 : nc_LTown G K o) (mi : nc_Mem) (a1 a2 a3 : Int32) (res : nc_Mem × Int32) (hf : f_X5_handOver mi o a1 a2 a3 = some res) : nc_M l yX5_handOver cX5_handOver 7 (some .boolean) rm_X5_handOver 0 0 G K K [.ref o, .int a1, .int a2, .int a3] mi res.1 (some (.int res.2)) := by
  refine nc_meet_i (by decide) (Nat.le_of_ble_eq_true rfl) ?_
  intro p e s m args below meth c Q H locs ls cx hret hw hl
  have cx : nc_C p s m args c cX5_handOver 7 RX5 G := cx
  have hl : lv_has ls 7 [(0, .ref o), (1, .int a1), (2, .int a2), (3, .int a3)] := hl
  have hx := cx.1
  have hb := cx.2.1
  unfold f_X5_handOver at hf
  refine lv_aload_n hx hb dX5_handOver_0 rfl (lv_at hl 0 rfl) ?_
  refine gr_X5_11 cx hw (lTown_is h0) (lTown_people h0) (lTown_people_L h0) dX5_handOver_1 ?_
  refine lv_iload_n hx hb dX5_handOver_4 rfl (lv_at hl 1 rfl) ?_
  obtain ⟨j1, ej1, ij1, lj1, hf⟩ := nc_ix hf
  refine nc_ald cx hw (by decide) (lTown_people_L h0) ij1 ej1 ((lTown_people_E h0 j1 lj1)).1 (lPerson_is ((lTown_people_E h0 j1 lj1)).2) dX5_handOver_5 ?_
  refine lv_astore (lv' := [(4, .ref (o + 5 + j1)), (0, .ref o), (1, .int a1), (2, .int a2), (3, .int a3)]) hx hb dX5_handOver_6 hl (by decide) rfl (fun ls hl => ?_)
  refine lv_aload_n hx hb dX5_handOver_8 rfl (lv_at hl 1 rfl) ?_
  refine gr_X5_11 cx hw (lTown_is h0) (lTown_people h0) (lTown_people_L h0) dX5_handOver_9 ?_
  refine lv_iload_n hx hb dX5_handOver_12 rfl (lv_at hl 3 rfl) ?_
  obtain ⟨j2, ej2, ij2, lj2, hf⟩ := nc_ix hf
  refine nc_ald cx hw (by decide) (lTown_people_L h0) ij2 ej2 ((lTown_people_E h0 j2 lj2)).1 (lPerson_is ((lTown_people_E h0 j2 lj2)).2) dX5_handOver_13 ?_
  refine lv_astore (lv' := [(5, .ref (o + 5 + j2)), (4, .ref (o + 5 + j1)), (0, .ref o), (1, .int a1), (2, .int a2), (3, .int a3)]) hx hb dX5_handOver_14 hl (by decide) rfl (fun ls hl => ?_)
  refine lv_aload hx hb dX5_handOver_16 (lv_at hl 1 rfl) ?_
  refine gi_X5_112 cx hw (lPerson_is ((lTown_people_E h0 j1 lj1)).2) dX5_handOver_18 ?_
  refine lv_aload hx hb dX5_handOver_21 (lv_at hl 0 rfl) ?_
  refine gi_X5_112 cx hw (lPerson_is ((lTown_people_E h0 j2 lj2)).2) dX5_handOver_23 ?_
  refine nc_mx cx hl.1 (nc_w 494 (by decide +kernel) rfl) ⟨Nat.le_of_ble_eq_true rfl, Nat.le_of_ble_eq_true rfl⟩ dX5_handOver_26 ?_
  refine lv_topi (fun x3 ex3 => ?_)
  have hf := nc_let_at hf ex3
  refine lv_istore (lv' := [(6, .int x3), (5, .ref (o + 5 + j2)), (4, .ref (o + 5 + j1)), (0, .ref o), (1, .int a1), (2, .int a2), (3, .int a3)]) hx hb dX5_handOver_29 hl (by decide) rfl (fun ls hl => ?_)
  refine lv_aload_n hx hb dX5_handOver_31 rfl (lv_at hl 3 rfl) ?_
  refine gr_X5_19 cx hw (lTown_is h0) (lTown_goods h0) (lTown_goods_L h0) dX5_handOver_32 ?_
  refine lv_iload_n hx hb dX5_handOver_35 rfl (lv_at hl 6 rfl) ?_
  obtain ⟨j4, ej4, ij4, lj4, hf⟩ := nc_ix hf
  refine nc_ald cx hw (by decide) (lTown_goods_L h0) ij4 ej4 ((lTown_goods_E h0 j4 lj4)).1 (lThing_is ((lTown_goods_E h0 j4 lj4)).2) dX5_handOver_36 ?_
  refine gi_X5_97 cx hw (lThing_is ((lTown_goods_E h0 j4 lj4)).2) dX5_handOver_37 ?_
  refine lv_bipush (v := 10) hx hb dX5_handOver_40 (by decide) ?_
  refine lv_iload_n hx hb dX5_handOver_42 rfl (lv_at hl 4 rfl) ?_
  refine lv_iadd hx hb dX5_handOver_43 ?_
  refine lv_icmp_ne (tgt := 80) hx hb dX5_handOver_44 (by decide) (fun c5 => ?_) (fun c5 => ?_)
  · have hf := nc_ifn hf c5
    refine lv_iconst (v := 0) hx hb dX5_handOver_80 (by decide) ?_
    exact nc_rpm hret hf rfl hw dX5_handOver_81
  · have hf := nc_ifp hf c5
    refine lv_aload hx hb dX5_handOver_47 (lv_at hl 2 rfl) ?_
    refine gi_X5_86 cx hw (lPerson_is ((lTown_people_E h0 j1 lj1)).2) dX5_handOver_49 ?_
    refine lv_aload hx hb dX5_handOver_52 (lv_at hl 1 rfl) ?_
    refine gi_X5_86 cx hw (lPerson_is ((lTown_people_E h0 j2 lj2)).2) dX5_handOver_54 ?_
    refine lv_icmp_ne (tgt := 80) hx hb dX5_handOver_57 (by decide) (fun c6 => ?_) (fun c6 => ?_)
    · have hf := nc_ifn hf c6
      refine lv_iconst (v := 0) hx hb dX5_handOver_80 (by decide) ?_
      exact nc_rpm hret hf rfl hw dX5_handOver_81
    · have hf := nc_ifp hf c6
      refine lv_aload_n hx hb dX5_handOver_60 rfl (lv_at hl 3 rfl) ?_
      refine lv_iload_n hx hb dX5_handOver_61 rfl (lv_at hl 5 rfl) ?_
      refine lv_iload_n hx hb dX5_handOver_62 rfl (lv_at hl 6 rfl) ?_
      refine lv_iload hx hb dX5_handOver_63 (lv_at hl 0 rfl) ?_
      obtain ⟨q7, hq7, hf⟩ := nc_bi hf
      refine nc_callVi cx hw lk_X5_151 (c_X5_letsCarry l h0 mi a2 a3 x3 q7 hq7) (ci := 5) rfl (lTown_is h0) rfl hl.1 rfl (Nat.le_of_ble_eq_true rfl) ⟨rfl, rfl, Nat.le_of_ble_eq_true rfl, Nat.le_of_ble_eq_true rfl⟩ dX5_handOver_65 (fun H locs hw => ?_)
      refine lv_if_eq (tgt := 80) hx hb dX5_handOver_68 (by decide) (fun c8 => ?_) (fun c8 => ?_)
      · have hf := nc_ifp hf c8
        refine lv_iconst (v := 0) hx hb dX5_handOver_80 (by decide) ?_
        exact nc_rpm hret hf rfl hw dX5_handOver_81
      · have hf := nc_ifn hf c8
        refine lv_aload_n hx hb dX5_handOver_71 rfl (lv_at hl 3 rfl) ?_
        refine lv_iload_n hx hb dX5_handOver_72 rfl (lv_at hl 5 rfl) ?_
        refine lv_iload_n hx hb dX5_handOver_73 rfl (lv_at hl 6 rfl) ?_
        obtain ⟨q9, hq9, hf⟩ := nc_bi hf
        refine nc_callVi cx hw lk_X5_154 (c_X5_hasSpareRoom l h0 mi a2 a3 q9 hq9) (ci := 5) rfl (lTown_is h0) rfl hl.1 rfl (Nat.le_of_ble_eq_true rfl) ⟨rfl, rfl, Nat.le_of_ble_eq_true rfl, Nat.le_of_ble_eq_true rfl⟩ dX5_handOver_74 (fun H locs hw => ?_)
        refine lv_if_ne (tgt := 82) hx hb dX5_handOver_77 (by decide) (fun c10 => ?_) (fun c10 => ?_)
        · have hf := nc_ifn hf c10
          refine lv_aload hx hb dX5_handOver_82 (lv_at hl 2 rfl) ?_
          refine lv_iload hx hb dX5_handOver_84 (lv_at hl 0 rfl) ?_
          refine pi_X5_112 cx hw (lPerson_is ((lTown_people_E h0 j1 lj1)).2) dX5_handOver_86 (fun mi11 H locs emi11 hw => ?_)
          have hf := nc_let_at hf emi11
          refine lv_aload hx hb dX5_handOver_89 (lv_at hl 1 rfl) ?_
          refine lv_iload hx hb dX5_handOver_91 (lv_at hl 0 rfl) ?_
          refine pi_X5_112 cx hw (lPerson_is ((lTown_people_E h0 j2 lj2)).2) dX5_handOver_93 (fun mi12 H locs emi12 hw => ?_)
          have hf := nc_let_at hf emi12
          refine lv_aload_n hx hb dX5_handOver_96 rfl (lv_at hl 3 rfl) ?_
          refine lv_iload_n hx hb dX5_handOver_97 rfl (lv_at hl 5 rfl) ?_
          refine lv_iload_n hx hb dX5_handOver_98 rfl (lv_at hl 6 rfl) ?_
          obtain ⟨q13, hq13, hf⟩ := nc_bi hf
          refine nc_callVv cx hw lk_X5_157 (c_X5_load l h0 mi12 a2 a3 q13 hq13) (ci := 5) rfl (lTown_is h0) rfl hl.1 rfl (Nat.le_of_ble_eq_true rfl) ⟨rfl, rfl, Nat.le_of_ble_eq_true rfl, Nat.le_of_ble_eq_true rfl⟩ dX5_handOver_99 (fun H locs hw => ?_)
          refine lv_iconst (v := 1) hx hb dX5_handOver_102 (by decide) ?_
          exact nc_rpm hret hf rfl hw dX5_handOver_103
        · have hf := nc_ifp hf c10
          refine lv_iconst (v := 0) hx hb dX5_handOver_80 (by decide) ?_
          exact nc_rpm hret hf rfl hw dX5_handOver_81
abbrev rm_X7_hand : Room := { frames := 3, cells := 0, slots := 0, locals := 76 }
set_option maxRecDepth 100000 in
set_option maxHeartbeats 4000000 in
theorem c_X7_hand (l : Launch) {G : nc_G} {K : nc_K} {o : Nat} (h0 : nc_LNC G K o) (mi : nc_Mem) (a1 a2 a3 : Int32) (res : nc_Mem × Int32) (hf : f_X7_hand mi o a1 a2 a3 = some res) : nc_M l yX7_hand cX7_hand 4 (some .int) rm_X7_hand 0 0 G K K [.ref o, .int a1, .int a2, .int a3] mi res.1 (some (.int res.2)) := by
  refine nc_meet_i (by decide) (Nat.le_of_ble_eq_true rfl) ?_
  intro p e s m args below meth c Q H locs ls cx hret hw hl
  have cx : nc_C p s m args c cX7_hand 4 RX7 G := cx
  have hl : lv_has ls 4 [(0, .ref o), (1, .int a1), (2, .int a2), (3, .int a3)] := hl
  have hx := cx.1
  have hb := cx.2.1
  unfold f_X7_hand at hf
  refine lv_aload_n hx hb dX7_hand_0 rfl (lv_at hl 0 rfl) ?_
  refine gr_X7_10 cx hw (lNC_is h0) (lNC_now h0) (lTown_is (lNC_now_L h0)) dX7_hand_1 ?_
  refine lv_iload_n hx hb dX7_hand_4 rfl (lv_at hl 1 rfl) ?_
  refine nc_callVi cx hw lk_X7_86 (c_X5_isPerson l (lNC_now_L h0) mi a1 _ rfl) (ci := 5) rfl (lTown_is (lNC_now_L h0)) rfl hl.1 rfl (Nat.le_of_ble_eq_true rfl) ⟨rfl, rfl, Nat.le_of_ble_eq_true rfl, Nat.le_of_ble_eq_true rfl⟩ dX7_hand_5 (fun H locs hw => ?_)
  obtain ⟨k1, ek1, hf⟩ := nc_jn_of hf
  have hk1 : k1 = some res → ∀ (H : Heap) (locs : List Loc) (ls : Array Slot), nc_W G K mi H locs → lv_has ls 4 [(0, .ref o)] → W p l e rm_X7_hand s m args below meth c H locs 0 0 Q (F0 m 38 ls []) := by
    intro hf H locs ls hw hl
    have hf := (ek1).symm.trans hf
    refine lv_aload_n hx hb dX7_hand_38 rfl (lv_at hl 0 rfl) ?_
    refine lv_iconst (v := (-1)) hx hb dX7_hand_39 (by decide) ?_
    obtain ⟨q2, hq2, hf⟩ := nc_bi hf
    refine nc_callVi cx hw lk_X7_60 (c_X7_refuse l h0 mi (-1) q2 hq2) (ci := 7) rfl (lNC_is h0) rfl hl.1 rfl (Nat.le_of_ble_eq_true rfl) ⟨rfl, rfl, Nat.le_of_ble_eq_true rfl, Nat.le_of_ble_eq_true rfl⟩ dX7_hand_40 (fun H locs hw => ?_)
    exact nc_rpm hret hf rfl hw dX7_hand_43
  refine lv_if_eq (tgt := 38) hx hb dX7_hand_8 (by decide) (fun c3 => ?_) (fun c3 => ?_)
  · have hf := nc_ifp hf c3
    exact hk1 hf _ _ _ hw (lv_sub hl [0] rfl)
  · have hf := nc_ifn hf c3
    refine lv_aload_n hx hb dX7_hand_11 rfl (lv_at hl 0 rfl) ?_
    refine gr_X7_10 cx hw (lNC_is h0) (lNC_now h0) (lTown_is (lNC_now_L h0)) dX7_hand_12 ?_
    refine lv_iload_n hx hb dX7_hand_15 rfl (lv_at hl 2 rfl) ?_
    refine nc_callVi cx hw lk_X7_86 (c_X5_isPerson l (lNC_now_L h0) mi a2 _ rfl) (ci := 5) rfl (lTown_is (lNC_now_L h0)) rfl hl.1 rfl (Nat.le_of_ble_eq_true rfl) ⟨rfl, rfl, Nat.le_of_ble_eq_true rfl, Nat.le_of_ble_eq_true rfl⟩ dX7_hand_16 (fun H locs hw => ?_)
    refine lv_if_eq (tgt := 38) hx hb dX7_hand_19 (by decide) (fun c4 => ?_) (fun c4 => ?_)
    · have hf := nc_ifp hf c4
      exact hk1 hf _ _ _ hw (lv_sub hl [0] rfl)
    · have hf := nc_ifn hf c4
      refine lv_iload_n hx hb dX7_hand_22 rfl (lv_at hl 1 rfl) ?_
      refine lv_iload_n hx hb dX7_hand_23 rfl (lv_at hl 2 rfl) ?_
      refine lv_icmp_eq (tgt := 38) hx hb dX7_hand_24 (by decide) (fun c5 => ?_) (fun c5 => ?_)
      · have hf := nc_ifp hf c5
        exact hk1 hf _ _ _ hw (lv_sub hl [0] rfl)
      · have hf := nc_ifn hf c5
        refine lv_aload_n hx hb dX7_hand_27 rfl (lv_at hl 0 rfl) ?_
        refine gr_X7_10 cx hw (lNC_is h0) (lNC_now h0) (lTown_is (lNC_now_L h0)) dX7_hand_28 ?_
        refine lv_iload_n hx hb dX7_hand_31 rfl (lv_at hl 3 rfl) ?_
        refine nc_callVi cx hw lk_X7_101 (c_X5_isThing l (lNC_now_L h0) mi a3 _ rfl) (ci := 5) rfl (lTown_is (lNC_now_L h0)) rfl hl.1 rfl (Nat.le_of_ble_eq_true rfl) ⟨rfl, rfl, Nat.le_of_ble_eq_true rfl, Nat.le_of_ble_eq_true rfl⟩ dX7_hand_32 (fun H locs hw => ?_)
        refine lv_if_ne (tgt := 44) hx hb dX7_hand_35 (by decide) (fun c6 => ?_) (fun c6 => ?_)
        · have hf := nc_ifn hf c6
          refine lv_aload_n hx hb dX7_hand_44 rfl (lv_at hl 0 rfl) ?_
          refine gr_X7_10 cx hw (lNC_is h0) (lNC_now h0) (lTown_is (lNC_now_L h0)) dX7_hand_45 ?_
          refine lv_iload_n hx hb dX7_hand_48 rfl (lv_at hl 1 rfl) ?_
          refine lv_iload_n hx hb dX7_hand_49 rfl (lv_at hl 2 rfl) ?_
          refine lv_iload_n hx hb dX7_hand_50 rfl (lv_at hl 3 rfl) ?_
          obtain ⟨q7, hq7, hf⟩ := nc_bi hf
          refine nc_callVi cx hw lk_X7_131 (c_X5_handOver l (lNC_now_L h0) mi a1 a2 a3 q7 hq7) (ci := 5) rfl (lTown_is (lNC_now_L h0)) rfl hl.1 rfl (Nat.le_of_ble_eq_true rfl) ⟨rfl, rfl, Nat.le_of_ble_eq_true rfl, Nat.le_of_ble_eq_true rfl⟩ dX7_hand_51 (fun H locs hw => ?_)
          refine lv_if_eq (tgt := 72) hx hb dX7_hand_54 (by decide) (fun c8 => ?_) (fun c8 => ?_)
          · have hf := nc_ifp hf c8
            refine lv_aload_n hx hb dX7_hand_72 rfl (lv_at hl 0 rfl) ?_
            refine lv_bipush (v := (-3)) hx hb dX7_hand_73 (by decide) ?_
            obtain ⟨q9, hq9, hf⟩ := nc_bi hf
            refine nc_callVi cx hw lk_X7_60 (c_X7_refuse l h0 q7.1 (-3) q9 hq9) (ci := 7) rfl (lNC_is h0) rfl hl.1 rfl (Nat.le_of_ble_eq_true rfl) ⟨rfl, rfl, Nat.le_of_ble_eq_true rfl, Nat.le_of_ble_eq_true rfl⟩ dX7_hand_75 (fun H locs hw => ?_)
            exact nc_rpm hret hf rfl hw dX7_hand_78
          · have hf := nc_ifn hf c8
            refine lv_aload_n hx hb dX7_hand_57 rfl (lv_at hl 0 rfl) ?_
            refine gr_X7_10 cx hw (lNC_is h0) (lNC_now h0) (lTown_is (lNC_now_L h0)) dX7_hand_58 ?_
            refine gr_X7_92 cx hw (lTown_is (lNC_now_L h0)) (lTown_people (lNC_now_L h0)) (lTown_people_L (lNC_now_L h0)) dX7_hand_61 ?_
            refine lv_iload_n hx hb dX7_hand_64 rfl (lv_at hl 1 rfl) ?_
            obtain ⟨j10, ej10, ij10, lj10, hf⟩ := nc_ix hf
            refine nc_ald cx hw (by decide) (lTown_people_L (lNC_now_L h0)) ij10 ej10 ((lTown_people_E (lNC_now_L h0) j10 lj10)).1 (lPerson_is ((lTown_people_E (lNC_now_L h0) j10 lj10)).2) dX7_hand_65 ?_
            refine gi_X7_122 cx hw (lPerson_is ((lTown_people_E (lNC_now_L h0) j10 lj10)).2) dX7_hand_66 ?_
            refine lv_goto (tgt := 78) hx hb dX7_hand_69 (by decide) ?_
            exact nc_rpm hret hf rfl hw dX7_hand_78
        · have hf := nc_ifp hf c6
          exact hk1 hf _ _ _ hw (lv_sub hl [0] rfl)
abbrev rm_X7_tarry : Room := { frames := 1, cells := 0, slots := 0, locals := 22 }
set_option maxRecDepth 100000 in
set_option maxHeartbeats 4000000 in
theorem c_X7_tarry (l : Launch) {G : nc_G} {K : nc_K} {o : Nat} (h0 : nc_LNC G K o) (mi : nc_Mem) (a1 a2 : Int32) (res : nc_Mem × Int32) (hf : f_X7_tarry mi o a1 a2 = some res) : nc_M l yX7_tarry cX7_tarry 3 (some .int) rm_X7_tarry 0 0 G K K [.ref o, .int a1, .int a2] mi res.1 (some (.int res.2)) := by
  refine nc_meet_i (by decide) (Nat.le_of_ble_eq_true rfl) ?_
  intro p e s m args below meth c Q H locs ls cx hret hw hl
  have cx : nc_C p s m args c cX7_tarry 3 RX7 G := cx
  have hl : lv_has ls 3 [(0, .ref o), (1, .int a1), (2, .int a2)] := hl
  have hx := cx.1
  have hb := cx.2.1
  unfold f_X7_tarry at hf
  refine lv_aload_n hx hb dX7_tarry_0 rfl (lv_at hl 0 rfl) ?_
  refine gr_X7_10 cx hw (lNC_is h0) (lNC_now h0) (lTown_is (lNC_now_L h0)) dX7_tarry_1 ?_
  refine lv_iload_n hx hb dX7_tarry_4 rfl (lv_at hl 1 rfl) ?_
  refine nc_callVi cx hw lk_X7_86 (c_X5_isPerson l (lNC_now_L h0) mi a1 _ rfl) (ci := 5) rfl (lTown_is (lNC_now_L h0)) rfl hl.1 rfl (Nat.le_of_ble_eq_true rfl) ⟨rfl, rfl, Nat.le_of_ble_eq_true rfl, Nat.le_of_ble_eq_true rfl⟩ dX7_tarry_5 (fun H locs hw => ?_)
  refine lv_if_ne (tgt := 17) hx hb dX7_tarry_8 (by decide) (fun c1 => ?_) (fun c1 => ?_)
  · have hf := nc_ifn hf c1
    refine lv_iload_n hx hb dX7_tarry_17 rfl (lv_at hl 2 rfl) ?_
    refine lv_iconst (v := 1) hx hb dX7_tarry_18 (by decide) ?_
    refine lv_icmp_ge (tgt := 29) hx hb dX7_tarry_19 (by decide) (fun c2 => ?_) (fun c2 => ?_)
    · have hf := nc_ifp hf c2
      refine lv_iload_n hx hb dX7_tarry_29 rfl (lv_at hl 2 rfl) ?_
      refine lv_sipush (v := 600) hx hb dX7_tarry_30 (by decide) ?_
      refine lv_icmp_le (tgt := 43) hx hb dX7_tarry_33 (by decide) (fun c3 => ?_) (fun c3 => ?_)
      · have hf := nc_ifp hf c3
        refine lv_aload_n hx hb dX7_tarry_43 rfl (lv_at hl 0 rfl) ?_
        refine gr_X7_10 cx hw (lNC_is h0) (lNC_now h0) (lTown_is (lNC_now_L h0)) dX7_tarry_44 ?_
        refine gr_X7_92 cx hw (lTown_is (lNC_now_L h0)) (lTown_people (lNC_now_L h0)) (lTown_people_L (lNC_now_L h0)) dX7_tarry_47 ?_
        refine lv_iload_n hx hb dX7_tarry_50 rfl (lv_at hl 1 rfl) ?_
        obtain ⟨j4, ej4, ij4, lj4, hf⟩ := nc_ix hf
        refine nc_ald cx hw (by decide) (lTown_people_L (lNC_now_L h0)) ij4 ej4 ((lTown_people_E (lNC_now_L h0) j4 lj4)).1 (lPerson_is ((lTown_people_E (lNC_now_L h0) j4 lj4)).2) dX7_tarry_51 ?_
        refine lv_dup hx hb dX7_tarry_52 rfl ?_
        refine gi_X7_122 cx hw (lPerson_is ((lTown_people_E (lNC_now_L h0) j4 lj4)).2) dX7_tarry_53 ?_
        refine lv_iload_n hx hb dX7_tarry_56 rfl (lv_at hl 2 rfl) ?_
        refine lv_iadd hx hb dX7_tarry_57 ?_
        refine pi_X7_122 cx hw (lPerson_is ((lTown_people_E (lNC_now_L h0) j4 lj4)).2) dX7_tarry_58 (fun mi5 H locs emi5 hw => ?_)
        have hf := nc_let_at hf emi5
        refine lv_aload_n hx hb dX7_tarry_61 rfl (lv_at hl 0 rfl) ?_
        refine gr_X7_10 cx hw (lNC_is h0) (lNC_now h0) (lTown_is (lNC_now_L h0)) dX7_tarry_62 ?_
        refine gr_X7_92 cx hw (lTown_is (lNC_now_L h0)) (lTown_people (lNC_now_L h0)) (lTown_people_L (lNC_now_L h0)) dX7_tarry_65 ?_
        refine lv_iload_n hx hb dX7_tarry_68 rfl (lv_at hl 1 rfl) ?_
        refine nc_ald cx hw (by decide) (lTown_people_L (lNC_now_L h0)) ij4 ej4 ((lTown_people_E (lNC_now_L h0) j4 lj4)).1 (lPerson_is ((lTown_people_E (lNC_now_L h0) j4 lj4)).2) dX7_tarry_69 ?_
        refine gi_X7_122 cx hw (lPerson_is ((lTown_people_E (lNC_now_L h0) j4 lj4)).2) dX7_tarry_70 ?_
        exact nc_rpm hret hf rfl hw dX7_tarry_73
      · have hf := nc_ifn hf c3
        refine lv_aload_n hx hb dX7_tarry_36 rfl (lv_at hl 0 rfl) ?_
        refine lv_bipush (v := (-6)) hx hb dX7_tarry_37 (by decide) ?_
        obtain ⟨q6, hq6, hf⟩ := nc_bi hf
        refine nc_callVi cx hw lk_X7_60 (c_X7_refuse l h0 mi (-6) q6 hq6) (ci := 7) rfl (lNC_is h0) rfl hl.1 rfl (Nat.le_of_ble_eq_true rfl) ⟨rfl, rfl, Nat.le_of_ble_eq_true rfl, Nat.le_of_ble_eq_true rfl⟩ dX7_tarry_39 (fun H locs hw => ?_)
        exact nc_rpm hret hf rfl hw dX7_tarry_42
    · have hf := nc_ifn hf c2
      refine lv_aload_n hx hb dX7_tarry_22 rfl (lv_at hl 0 rfl) ?_
      refine lv_bipush (v := (-4)) hx hb dX7_tarry_23 (by decide) ?_
      obtain ⟨q7, hq7, hf⟩ := nc_bi hf
      refine nc_callVi cx hw lk_X7_60 (c_X7_refuse l h0 mi (-4) q7 hq7) (ci := 7) rfl (lNC_is h0) rfl hl.1 rfl (Nat.le_of_ble_eq_true rfl) ⟨rfl, rfl, Nat.le_of_ble_eq_true rfl, Nat.le_of_ble_eq_true rfl⟩ dX7_tarry_25 (fun H locs hw => ?_)
      exact nc_rpm hret hf rfl hw dX7_tarry_28
  · have hf := nc_ifp hf c1
    refine lv_aload_n hx hb dX7_tarry_11 rfl (lv_at hl 0 rfl) ?_
    refine lv_iconst (v := (-1)) hx hb dX7_tarry_12 (by decide) ?_
    obtain ⟨q8, hq8, hf⟩ := nc_bi hf
    refine nc_callVi cx hw lk_X7_60 (c_X7_refuse l h0 mi (-1) q8 hq8) (ci := 7) rfl (lNC_is h0) rfl hl.1 rfl (Nat.le_of_ble_eq_true rfl) ⟨rfl, rfl, Nat.le_of_ble_eq_true rfl, Nat.le_of_ble_eq_true rfl⟩ dX7_tarry_13 (fun H locs hw => ?_)
    exact nc_rpm hret hf rfl hw dX7_tarry_16
abbrev rm_X4_isOf : Room := { frames := 0, cells := 0, slots := 0, locals := 0 }
set_option maxRecDepth 100000 in
set_option maxHeartbeats 4000000 in
theorem c_X4_isOf (l : Launch) {G : nc_G} {K : nc_K} {o : Nat} (h0 : nc_LThing G K o) (mi : nc_Mem) (a1 : Int32) (res : Int32) (hf : f_X4_isOf mi o a1 = res) : nc_M l yX4_isOf cX4_isOf 2 (some .boolean) rm_X4_isOf 0 0 G K K [.ref o, .int a1] mi mi (some (.int res)) := by
  refine nc_meet_i (by decide) (Nat.le_of_ble_eq_true rfl) ?_
  intro p e s m args below meth c Q H locs ls cx hret hw hl
  have cx : nc_C p s m args c cX4_isOf 2 RX4 G := cx
  have hl : lv_has ls 2 [(0, .ref o), (1, .int a1)] := hl
  have hx := cx.1
  have hb := cx.2.1
  unfold f_X4_isOf at hf
  refine lv_iload_n hx hb dX4_isOf_0 rfl (lv_at hl 1 rfl) ?_
  refine lv_aload_n hx hb dX4_isOf_1 rfl (lv_at hl 0 rfl) ?_
  refine gi_X4_7 cx hw (lThing_is h0) dX4_isOf_2 ?_
  refine lv_icmp_eq (tgt := 16) hx hb dX4_isOf_5 (by decide) (fun c1 => ?_) (fun c1 => ?_)
  · have hf := nc_ifp hf c1
    refine lv_iconst (v := 1) hx hb dX4_isOf_16 (by decide) ?_
    refine lv_goto (tgt := 21) hx hb dX4_isOf_17 (by decide) ?_
    exact nc_rtp hret hf rfl hw dX4_isOf_21
  · have hf := nc_ifn hf c1
    refine lv_iload_n hx hb dX4_isOf_8 rfl (lv_at hl 1 rfl) ?_
    refine lv_aload_n hx hb dX4_isOf_9 rfl (lv_at hl 0 rfl) ?_
    refine gi_X4_13 cx hw (lThing_is h0) dX4_isOf_10 ?_
    refine lv_icmp_ne (tgt := 20) hx hb dX4_isOf_13 (by decide) (fun c2 => ?_) (fun c2 => ?_)
    · have hf := nc_ifn hf c2
      refine lv_iconst (v := 0) hx hb dX4_isOf_20 (by decide) ?_
      exact nc_rtp hret hf rfl hw dX4_isOf_21
    · have hf := nc_ifp hf c2
      refine lv_iconst (v := 1) hx hb dX4_isOf_16 (by decide) ?_
      refine lv_goto (tgt := 21) hx hb dX4_isOf_17 (by decide) ?_
      exact nc_rtp hret hf rfl hw dX4_isOf_21
abbrev rm_X7_give : Room := { frames := 1, cells := 0, slots := 0, locals := 22 }
set_option maxRecDepth 100000 in
set_option maxHeartbeats 4000000 in
theorem c_X7_give (l : Launch) {G : nc_G} {K : nc_K} {o : Nat} (h0 : nc_LNC G K o) (mi : nc_Mem) (a1 a2 : Int32) (res : nc_Mem × Int32) (hf : f_X7_give mi o a1 a2 = some res) : nc_M l yX7_give cX7_give 3 (some .int) rm_X7_give 0 0 G K K [.ref o, .int a1, .int a2] mi res.1 (some (.int res.2)) := by
  refine nc_meet_i (by decide) (Nat.le_of_ble_eq_true rfl) ?_
  intro p e s m args below meth c Q H locs ls cx hret hw hl
  have cx : nc_C p s m args c cX7_give 3 RX7 G := cx
  have hl : lv_has ls 3 [(0, .ref o), (1, .int a1), (2, .int a2)] := hl
  have hx := cx.1
  have hb := cx.2.1
  unfold f_X7_give at hf
  refine lv_aload_n hx hb dX7_give_0 rfl (lv_at hl 0 rfl) ?_
  refine gr_X7_10 cx hw (lNC_is h0) (lNC_now h0) (lTown_is (lNC_now_L h0)) dX7_give_1 ?_
  refine lv_iload_n hx hb dX7_give_4 rfl (lv_at hl 1 rfl) ?_
  refine nc_callVi cx hw lk_X7_86 (c_X5_isPerson l (lNC_now_L h0) mi a1 _ rfl) (ci := 5) rfl (lTown_is (lNC_now_L h0)) rfl hl.1 rfl (Nat.le_of_ble_eq_true rfl) ⟨rfl, rfl, Nat.le_of_ble_eq_true rfl, Nat.le_of_ble_eq_true rfl⟩ dX7_give_5 (fun H locs hw => ?_)
  obtain ⟨k1, ek1, hf⟩ := nc_jn_of hf
  have hk1 : k1 = some res → ∀ (H : Heap) (locs : List Loc) (ls : Array Slot), nc_W G K mi H locs → lv_has ls 3 [(0, .ref o)] → W p l e rm_X7_give s m args below meth c H locs 0 0 Q (F0 m 22 ls []) := by
    intro hf H locs ls hw hl
    have hf := (ek1).symm.trans hf
    refine lv_aload_n hx hb dX7_give_22 rfl (lv_at hl 0 rfl) ?_
    refine lv_iconst (v := (-1)) hx hb dX7_give_23 (by decide) ?_
    obtain ⟨q2, hq2, hf⟩ := nc_bi hf
    refine nc_callVi cx hw lk_X7_60 (c_X7_refuse l h0 mi (-1) q2 hq2) (ci := 7) rfl (lNC_is h0) rfl hl.1 rfl (Nat.le_of_ble_eq_true rfl) ⟨rfl, rfl, Nat.le_of_ble_eq_true rfl, Nat.le_of_ble_eq_true rfl⟩ dX7_give_24 (fun H locs hw => ?_)
    exact nc_rpm hret hf rfl hw dX7_give_27
  refine lv_if_eq (tgt := 22) hx hb dX7_give_8 (by decide) (fun c3 => ?_) (fun c3 => ?_)
  · have hf := nc_ifp hf c3
    exact hk1 hf _ _ _ hw (lv_sub hl [0] rfl)
  · have hf := nc_ifn hf c3
    refine lv_aload_n hx hb dX7_give_11 rfl (lv_at hl 0 rfl) ?_
    refine gr_X7_10 cx hw (lNC_is h0) (lNC_now h0) (lTown_is (lNC_now_L h0)) dX7_give_12 ?_
    refine lv_iload_n hx hb dX7_give_15 rfl (lv_at hl 2 rfl) ?_
    refine nc_callVi cx hw lk_X7_101 (c_X5_isThing l (lNC_now_L h0) mi a2 _ rfl) (ci := 5) rfl (lTown_is (lNC_now_L h0)) rfl hl.1 rfl (Nat.le_of_ble_eq_true rfl) ⟨rfl, rfl, Nat.le_of_ble_eq_true rfl, Nat.le_of_ble_eq_true rfl⟩ dX7_give_16 (fun H locs hw => ?_)
    refine lv_if_ne (tgt := 28) hx hb dX7_give_19 (by decide) (fun c4 => ?_) (fun c4 => ?_)
    · have hf := nc_ifn hf c4
      refine lv_aload_n hx hb dX7_give_28 rfl (lv_at hl 0 rfl) ?_
      refine gr_X7_10 cx hw (lNC_is h0) (lNC_now h0) (lTown_is (lNC_now_L h0)) dX7_give_29 ?_
      refine gr_X7_104 cx hw (lTown_is (lNC_now_L h0)) (lTown_goods (lNC_now_L h0)) (lTown_goods_L (lNC_now_L h0)) dX7_give_32 ?_
      refine lv_iload_n hx hb dX7_give_35 rfl (lv_at hl 2 rfl) ?_
      obtain ⟨j5, ej5, ij5, lj5, hf⟩ := nc_ix hf
      refine nc_ald cx hw (by decide) (lTown_goods_L (lNC_now_L h0)) ij5 ej5 ((lTown_goods_E (lNC_now_L h0) j5 lj5)).1 (lThing_is ((lTown_goods_E (lNC_now_L h0) j5 lj5)).2) dX7_give_36 ?_
      refine lv_iload_n hx hb dX7_give_37 rfl (lv_at hl 1 rfl) ?_
      refine nc_callVi cx hw lk_X7_134 (c_X4_isOf l ((lTown_goods_E (lNC_now_L h0) j5 lj5)).2 mi a1 _ rfl) (ci := 4) rfl (lThing_is ((lTown_goods_E (lNC_now_L h0) j5 lj5)).2) rfl hl.1 rfl (Nat.le_of_ble_eq_true rfl) ⟨rfl, rfl, Nat.le_of_ble_eq_true rfl, Nat.le_of_ble_eq_true rfl⟩ dX7_give_38 (fun H locs hw => ?_)
      refine lv_if_ne (tgt := 51) hx hb dX7_give_41 (by decide) (fun c6 => ?_) (fun c6 => ?_)
      · have hf := nc_ifn hf c6
        refine lv_aload_n hx hb dX7_give_51 rfl (lv_at hl 0 rfl) ?_
        refine gr_X7_10 cx hw (lNC_is h0) (lNC_now h0) (lTown_is (lNC_now_L h0)) dX7_give_52 ?_
        refine gr_X7_104 cx hw (lTown_is (lNC_now_L h0)) (lTown_goods (lNC_now_L h0)) (lTown_goods_L (lNC_now_L h0)) dX7_give_55 ?_
        refine lv_iload_n hx hb dX7_give_58 rfl (lv_at hl 2 rfl) ?_
        refine nc_ald cx hw (by decide) (lTown_goods_L (lNC_now_L h0)) ij5 ej5 ((lTown_goods_E (lNC_now_L h0) j5 lj5)).1 (lThing_is ((lTown_goods_E (lNC_now_L h0) j5 lj5)).2) dX7_give_59 ?_
        refine lv_aload_n hx hb dX7_give_60 rfl (lv_at hl 0 rfl) ?_
        refine gr_X7_10 cx hw (lNC_is h0) (lNC_now h0) (lTown_is (lNC_now_L h0)) dX7_give_61 ?_
        refine gr_X7_92 cx hw (lTown_is (lNC_now_L h0)) (lTown_people (lNC_now_L h0)) (lTown_people_L (lNC_now_L h0)) dX7_give_64 ?_
        refine lv_iload_n hx hb dX7_give_67 rfl (lv_at hl 1 rfl) ?_
        obtain ⟨j7, ej7, ij7, lj7, hf⟩ := nc_ix hf
        refine nc_ald cx hw (by decide) (lTown_people_L (lNC_now_L h0)) ij7 ej7 ((lTown_people_E (lNC_now_L h0) j7 lj7)).1 (lPerson_is ((lTown_people_E (lNC_now_L h0) j7 lj7)).2) dX7_give_68 ?_
        refine gi_X7_122 cx hw (lPerson_is ((lTown_people_E (lNC_now_L h0) j7 lj7)).2) dX7_give_69 ?_
        refine pi_X7_137 cx hw (lThing_is ((lTown_goods_E (lNC_now_L h0) j5 lj5)).2) dX7_give_72 (fun mi8 H locs emi8 hw => ?_)
        have hf := nc_let_at hf emi8
        refine lv_aload_n hx hb dX7_give_75 rfl (lv_at hl 0 rfl) ?_
        refine gr_X7_10 cx hw (lNC_is h0) (lNC_now h0) (lTown_is (lNC_now_L h0)) dX7_give_76 ?_
        refine gr_X7_92 cx hw (lTown_is (lNC_now_L h0)) (lTown_people (lNC_now_L h0)) (lTown_people_L (lNC_now_L h0)) dX7_give_79 ?_
        refine lv_iload_n hx hb dX7_give_82 rfl (lv_at hl 1 rfl) ?_
        refine nc_ald cx hw (by decide) (lTown_people_L (lNC_now_L h0)) ij7 ej7 ((lTown_people_E (lNC_now_L h0) j7 lj7)).1 (lPerson_is ((lTown_people_E (lNC_now_L h0) j7 lj7)).2) dX7_give_83 ?_
        refine gi_X7_122 cx hw (lPerson_is ((lTown_people_E (lNC_now_L h0) j7 lj7)).2) dX7_give_84 ?_
        exact nc_rpm hret hf rfl hw dX7_give_87
      · have hf := nc_ifp hf c6
        refine lv_aload_n hx hb dX7_give_44 rfl (lv_at hl 0 rfl) ?_
        refine lv_bipush (v := (-3)) hx hb dX7_give_45 (by decide) ?_
        obtain ⟨q9, hq9, hf⟩ := nc_bi hf
        refine nc_callVi cx hw lk_X7_60 (c_X7_refuse l h0 mi (-3) q9 hq9) (ci := 7) rfl (lNC_is h0) rfl hl.1 rfl (Nat.le_of_ble_eq_true rfl) ⟨rfl, rfl, Nat.le_of_ble_eq_true rfl, Nat.le_of_ble_eq_true rfl⟩ dX7_give_47 (fun H locs hw => ?_)
        exact nc_rpm hret hf rfl hw dX7_give_50
    · have hf := nc_ifp hf c4
      exact hk1 hf _ _ _ hw (lv_sub hl [0] rfl)
abbrev rm_X7_there : Room := { frames := 0, cells := 0, slots := 0, locals := 0 }
set_option maxRecDepth 100000 in
set_option maxHeartbeats 4000000 in
theorem c_X7_there (l : Launch) {G : nc_G} {K : nc_K} {o : Nat} (h0 : nc_LNC G K o) (mi : nc_Mem)  (res : Int32) (hf : f_X7_there mi o = some res) : nc_M l yX7_there cX7_there 4 (some .int) rm_X7_there 0 0 G K K [.ref o] mi mi (some (.int res)) := by
  refine nc_meet_i (by decide) (Nat.le_of_ble_eq_true rfl) ?_
  intro p e s m args below meth c Q H locs ls cx hret hw hl
  have cx : nc_C p s m args c cX7_there 4 RX7 G := cx
  have hl : lv_has ls 4 [(0, .ref o)] := hl
  have hx := cx.1
  have hb := cx.2.1
  unfold f_X7_there at hf
  refine lv_iconst (v := 0) hx hb dX7_there_0 (by decide) ?_
  refine lv_istore_n (lv' := [(1, .int 0), (0, .ref o)]) hx hb dX7_there_1 rfl hl (by decide) rfl (fun ls hl => ?_)
  refine lv_iconst (v := 0) hx hb dX7_there_2 (by decide) ?_
  refine lv_istore_n (lv' := [(2, .int 0), (1, .int 0), (0, .ref o)]) hx hb dX7_there_3 rfl hl (by decide) rfl (fun ls hl => ?_)
  refine nc_loop_w (P := fun κ : Int32 → Int32 → Option (Int32) => ∀ (x1 : Int32) (x2 : Int32), κ x1 x2 = some res → ∀ (H : Heap) (locs : List Loc) (ls : Array Slot), nc_W G K mi H locs → lv_has ls 4 [(0, .ref o), (1, .int x1), (2, .int x2)] → W p l e rm_X7_there s m args below meth c H locs 0 0 Q (F0 m 4 ls [])) ?_ ?_ 200 _ _ hf _ _ _ hw (lv_sub hl [2, 1, 0] rfl)
  · intro x1 x2 hf; exact absurd hf (by intro q; cases q)
  · intro rc3 ihrc3 x1 x2 hf H locs ls hw hl
    unfold B_X7_there_4 at hf
    refine lv_iload_n hx hb dX7_there_4 rfl (lv_at hl 2 rfl) ?_
    refine lv_aload_n hx hb dX7_there_5 rfl (lv_at hl 0 rfl) ?_
    refine gr_X7_10 cx hw (lNC_is h0) (lNC_now h0) (lTown_is (lNC_now_L h0)) dX7_there_6 ?_
    refine gi_X7_140 cx hw (lTown_is (lNC_now_L h0)) dX7_there_9 ?_
    refine lv_icmp_ge (tgt := 56) hx hb dX7_there_12 (by decide) (fun c4 => ?_) (fun c4 => ?_)
    · have hf := nc_ifp hf c4
      refine lv_iload_n hx hb dX7_there_56 rfl (lv_at hl 1 rfl) ?_
      exact nc_rpp hret hf rfl hw dX7_there_57
    · have hf := nc_ifn hf c4
      refine lv_aload_n hx hb dX7_there_15 rfl (lv_at hl 0 rfl) ?_
      refine gr_X7_10 cx hw (lNC_is h0) (lNC_now h0) (lTown_is (lNC_now_L h0)) dX7_there_16 ?_
      refine gr_X7_104 cx hw (lTown_is (lNC_now_L h0)) (lTown_goods (lNC_now_L h0)) (lTown_goods_L (lNC_now_L h0)) dX7_there_19 ?_
      refine lv_iload_n hx hb dX7_there_22 rfl (lv_at hl 2 rfl) ?_
      obtain ⟨j5, ej5, ij5, lj5, hf⟩ := nc_ix hf
      refine nc_ald cx hw (by decide) (lTown_goods_L (lNC_now_L h0)) ij5 ej5 ((lTown_goods_E (lNC_now_L h0) j5 lj5)).1 (lThing_is ((lTown_goods_E (lNC_now_L h0) j5 lj5)).2) dX7_there_23 ?_
      refine lv_astore_n (lv' := [(3, .ref (o + 1 + 11 + j5)), (0, .ref o), (1, .int x1), (2, .int x2)]) hx hb dX7_there_24 rfl hl (by decide) rfl (fun ls hl => ?_)
      refine lv_aload_n hx hb dX7_there_25 rfl (lv_at hl 0 rfl) ?_
      refine gi_X7_143 cx hw (lThing_is ((lTown_goods_E (lNC_now_L h0) j5 lj5)).2) dX7_there_26 ?_
      refine lv_aload_n hx hb dX7_there_29 rfl (lv_at hl 0 rfl) ?_
      refine gi_X7_146 cx hw (lThing_is ((lTown_goods_E (lNC_now_L h0) j5 lj5)).2) dX7_there_30 ?_
      refine lv_icmp_ne (tgt := 50) hx hb dX7_there_33 (by decide) (fun c6 => ?_) (fun c6 => ?_)
      · have hf := nc_ifn hf c6
        obtain ⟨x7, ex7⟩ : ∃ y : Int32, y = x2 + 1 := ⟨_, rfl⟩
        have hf := nc_let_at hf ex7
        refine lv_iinc (v := x7) (lv' := [(2, .int x7), (3, .ref (o + 1 + 11 + j5)), (0, .ref o), (1, .int x1)]) hx hb dX7_there_50 hl (k := 3) rfl (by rw [ex7]; rfl) (by decide) rfl (fun ls hl => ?_)
        refine lv_goto (tgt := 4) hx hb dX7_there_53 (by decide) ?_
        exact ihrc3 _ _ hf _ _ _ hw (lv_sub hl [2, 3, 0] rfl)
      · have hf := nc_ifp hf c6
        refine lv_aload_n hx hb dX7_there_36 rfl (lv_at hl 0 rfl) ?_
        refine gi_X7_149 cx hw (lThing_is ((lTown_goods_E (lNC_now_L h0) j5 lj5)).2) dX7_there_37 ?_
        refine lv_aload_n hx hb dX7_there_40 rfl (lv_at hl 0 rfl) ?_
        refine gi_X7_152 cx hw (lThing_is ((lTown_goods_E (lNC_now_L h0) j5 lj5)).2) dX7_there_41 ?_
        refine lv_icmp_gt (tgt := 50) hx hb dX7_there_44 (by decide) (fun c8 => ?_) (fun c8 => ?_)
        · have hf := nc_ifp hf c8
          obtain ⟨x9, ex9⟩ : ∃ y : Int32, y = x2 + 1 := ⟨_, rfl⟩
          have hf := nc_let_at hf ex9
          refine lv_iinc (v := x9) (lv' := [(2, .int x9), (3, .ref (o + 1 + 11 + j5)), (0, .ref o), (1, .int x1)]) hx hb dX7_there_50 hl (k := 3) rfl (by rw [ex9]; rfl) (by decide) rfl (fun ls hl => ?_)
          refine lv_goto (tgt := 4) hx hb dX7_there_53 (by decide) ?_
          exact ihrc3 _ _ hf _ _ _ hw (lv_sub hl [2, 3, 0] rfl)
        · have hf := nc_ifn hf c8
          obtain ⟨x10, ex10⟩ : ∃ y : Int32, y = x1 + 1 := ⟨_, rfl⟩
          have hf := nc_let_at hf ex10
          refine lv_iinc (v := x10) (lv' := [(1, .int x10), (3, .ref (o + 1 + 11 + j5)), (0, .ref o), (2, .int x2)]) hx hb dX7_there_47 hl (k := 2) rfl (by rw [ex10]; rfl) (by decide) rfl (fun ls hl => ?_)
          obtain ⟨x11, ex11⟩ : ∃ y : Int32, y = x2 + 1 := ⟨_, rfl⟩
          have hf := nc_let_at hf ex11
          refine lv_iinc (v := x11) (lv' := [(2, .int x11), (1, .int x10), (3, .ref (o + 1 + 11 + j5)), (0, .ref o)]) hx hb dX7_there_50 hl (k := 3) rfl (by rw [ex11]; rfl) (by decide) rfl (fun ls hl => ?_)
          refine lv_goto (tgt := 4) hx hb dX7_there_53 (by decide) ?_
          exact ihrc3 _ _ hf _ _ _ hw (lv_sub hl [3, 1, 0] rfl)
abbrev rm_X6_append : Room := { frames := 0, cells := 0, slots := 0, locals := 0 }
set_option maxRecDepth 100000 in
set_option maxHeartbeats 4000000 in
theorem c_X6_append (l : Launch) {G : nc_G} {K : nc_K} {o : Nat} (h0 : nc_LWay G K o) (mi : nc_Mem) (a1 a2 : Int32) (res : nc_Mem) (hf : f_X6_append mi o a1 a2 = some res) : nc_M l yX6_append cX6_append 3 none rm_X6_append 0 0 G K K [.ref o, .int a1, .int a2] mi res none := by
  refine nc_meet_v (by decide) (Nat.le_of_ble_eq_true rfl) ?_
  intro p e s m args below meth c Q H locs ls cx hret hw hl
  have cx : nc_C p s m args c cX6_append 3 RX6 G := cx
  have hl : lv_has ls 3 [(0, .ref o), (1, .int a1), (2, .int a2)] := hl
  have hx := cx.1
  have hb := cx.2.1
  unfold f_X6_append at hf
  refine lv_aload_n hx hb dX6_append_0 rfl (lv_at hl 0 rfl) ?_
  refine gi_X6_18 cx hw (lWay_is h0) dX6_append_1 ?_
  refine lv_bipush (v := 7) hx hb dX6_append_4 (by decide) ?_
  refine lv_icmp_ge (tgt := 39) hx hb dX6_append_6 (by decide) (fun c1 => ?_) (fun c1 => ?_)
  · have hf := nc_ifp hf c1
    exact nc_vpm hret hf hw dX6_append_39
  · have hf := nc_ifn hf c1
    refine lv_aload_n hx hb dX6_append_9 rfl (lv_at hl 0 rfl) ?_
    refine gr_X6_9 cx hw (lWay_is h0) (lWay_place h0) (lWay_place_L h0) dX6_append_10 ?_
    refine lv_aload_n hx hb dX6_append_13 rfl (lv_at hl 0 rfl) ?_
    refine gi_X6_18 cx hw (lWay_is h0) dX6_append_14 ?_
    refine lv_iload_n hx hb dX6_append_17 rfl (lv_at hl 1 rfl) ?_
    obtain ⟨j2, ej2, ij2, lj2, hf⟩ := nc_ix hf
    refine nc_ist cx hw (lWay_place_L h0) ij2 ej2 dX6_append_18 (fun mi3 H locs emi3 hw => ?_)
    have hf := nc_let_at hf emi3
    refine lv_aload_n hx hb dX6_append_19 rfl (lv_at hl 0 rfl) ?_
    refine gr_X6_15 cx hw (lWay_is h0) (lWay_minute h0) (lWay_minute_L h0) dX6_append_20 ?_
    refine lv_aload_n hx hb dX6_append_23 rfl (lv_at hl 0 rfl) ?_
    refine gi_X6_18 cx hw (lWay_is h0) dX6_append_24 ?_
    refine lv_iload_n hx hb dX6_append_27 rfl (lv_at hl 2 rfl) ?_
    obtain ⟨j4, ej4, ij4, lj4, hf⟩ := nc_ix hf
    refine nc_ist cx hw (lWay_minute_L h0) ij4 ej4 dX6_append_28 (fun mi5 H locs emi5 hw => ?_)
    have hf := nc_let_at hf emi5
    refine lv_aload_n hx hb dX6_append_29 rfl (lv_at hl 0 rfl) ?_
    refine lv_dup hx hb dX6_append_30 rfl ?_
    refine gi_X6_18 cx hw (lWay_is h0) dX6_append_31 ?_
    refine lv_iconst (v := 1) hx hb dX6_append_34 (by decide) ?_
    refine lv_iadd hx hb dX6_append_35 ?_
    refine pi_X6_18 cx hw (lWay_is h0) dX6_append_36 (fun mi6 H locs emi6 hw => ?_)
    have hf := nc_let_at hf emi6
    exact nc_vpm hret hf hw dX6_append_39
abbrev rm_X5_wayBetween : Room := { frames := 1, cells := 0, slots := 0, locals := 21 }
set_option maxRecDepth 100000 in
set_option maxHeartbeats 4000000 in
theorem c_X5_wayBetween (l : Launch) {G : nc_G} {K : nc_K} {o : Nat} (h0 : nc_LTown G K o) (mi : nc_Mem) (a1 a2 : Int32) (res : Int32) (hf : f_X5_wayBetween mi o a1 a2 = some res) : nc_M l yX5_wayBetween cX5_wayBetween 3 (some .int) rm_X5_wayBetween 0 0 G K K [.ref o, .int a1, .int a2] mi mi (some (.int res)) := by
  refine nc_meet_i (by decide) (Nat.le_of_ble_eq_true rfl) ?_
  intro p e s m args below meth c Q H locs ls cx hret hw hl
  have cx : nc_C p s m args c cX5_wayBetween 3 RX5 G := cx
  have hl : lv_has ls 3 [(0, .ref o), (1, .int a1), (2, .int a2)] := hl
  have hx := cx.1
  have hb := cx.2.1
  unfold f_X5_wayBetween at hf
  refine lv_aload_n hx hb dX5_wayBetween_0 rfl (lv_at hl 0 rfl) ?_
  refine lv_iload_n hx hb dX5_wayBetween_1 rfl (lv_at hl 1 rfl) ?_
  refine nc_callVi cx hw lk_X5_100 (c_X5_isPlace l h0 mi a1 _ rfl) (ci := 5) rfl (lTown_is h0) rfl hl.1 rfl (Nat.le_of_ble_eq_true rfl) ⟨rfl, rfl, Nat.le_of_ble_eq_true rfl, Nat.le_of_ble_eq_true rfl⟩ dX5_wayBetween_2 (fun H locs hw => ?_)
  refine lv_if_eq (tgt := 30) hx hb dX5_wayBetween_5 (by decide) (fun c1 => ?_) (fun c1 => ?_)
  · have hf := nc_ifp hf c1
    refine lv_iconst (v := 0) hx hb dX5_wayBetween_30 (by decide) ?_
    exact nc_rpp hret hf rfl hw dX5_wayBetween_31
  · have hf := nc_ifn hf c1
    refine lv_aload_n hx hb dX5_wayBetween_8 rfl (lv_at hl 0 rfl) ?_
    refine lv_iload_n hx hb dX5_wayBetween_9 rfl (lv_at hl 2 rfl) ?_
    refine nc_callVi cx hw lk_X5_100 (c_X5_isPlace l h0 mi a2 _ rfl) (ci := 5) rfl (lTown_is h0) rfl hl.1 rfl (Nat.le_of_ble_eq_true rfl) ⟨rfl, rfl, Nat.le_of_ble_eq_true rfl, Nat.le_of_ble_eq_true rfl⟩ dX5_wayBetween_10 (fun H locs hw => ?_)
    refine lv_if_eq (tgt := 30) hx hb dX5_wayBetween_13 (by decide) (fun c2 => ?_) (fun c2 => ?_)
    · have hf := nc_ifp hf c2
      refine lv_iconst (v := 0) hx hb dX5_wayBetween_30 (by decide) ?_
      exact nc_rpp hret hf rfl hw dX5_wayBetween_31
    · have hf := nc_ifn hf c2
      refine lv_aload_n hx hb dX5_wayBetween_16 rfl (lv_at hl 0 rfl) ?_
      refine gr_X5_23 cx hw (lTown_is h0) (lTown_way h0) (lTown_way_L h0) dX5_wayBetween_17 ?_
      refine lv_iload_n hx hb dX5_wayBetween_20 rfl (lv_at hl 1 rfl) ?_
      refine lv_bipush (v := 7) hx hb dX5_wayBetween_21 (by decide) ?_
      refine lv_imul hx hb dX5_wayBetween_23 ?_
      refine lv_iload_n hx hb dX5_wayBetween_24 rfl (lv_at hl 2 rfl) ?_
      refine lv_iadd hx hb dX5_wayBetween_25 ?_
      obtain ⟨j3, ej3, ij3, lj3, hf⟩ := nc_ix hf
      refine nc_ild cx hw (lTown_way_L h0) ij3 ej3 dX5_wayBetween_26 ?_
      refine lv_goto (tgt := 31) hx hb dX5_wayBetween_27 (by decide) ?_
      exact nc_rpp hret hf rfl hw dX5_wayBetween_31
abbrev rm_X6_nextToward : Room := { frames := 2, cells := 0, slots := 0, locals := 43 }
set_option maxRecDepth 100000 in
set_option maxHeartbeats 4000000 in
theorem c_X6_nextToward (l : Launch) {G : nc_G} {K : nc_K} {o r1 : Nat} (h0 : nc_LWay G K o) (h1 : nc_LTown G K r1) (mi : nc_Mem) (a2 a3 : Int32) (res : Int32) (hf : f_X6_nextToward mi o r1 a2 a3 = some res) : nc_M l yX6_nextToward cX6_nextToward 7 (some .int) rm_X6_nextToward 0 0 G K K [.ref o, .ref r1, .int a2, .int a3] mi mi (some (.int res)) := by
  refine nc_meet_i (by decide) (Nat.le_of_ble_eq_true rfl) ?_
  intro p e s m args below meth c Q H locs ls cx hret hw hl
  have cx : nc_C p s m args c cX6_nextToward 7 RX6 G := cx
  have hl : lv_has ls 7 [(0, .ref o), (1, .ref r1), (2, .int a2), (3, .int a3)] := hl
  have hx := cx.1
  have hb := cx.2.1
  unfold f_X6_nextToward at hf
  refine lv_aload_n hx hb dX6_nextToward_0 rfl (lv_at hl 1 rfl) ?_
  refine lv_iload_n hx hb dX6_nextToward_1 rfl (lv_at hl 2 rfl) ?_
  refine lv_iload_n hx hb dX6_nextToward_2 rfl (lv_at hl 3 rfl) ?_
  obtain ⟨q1, hq1, hf⟩ := nc_bi hf
  refine nc_callVi cx hw lk_X6_22 (c_X5_leastBetween l h1 mi a2 a3 q1 hq1) (ci := 5) rfl (lTown_is h1) rfl hl.1 rfl (Nat.le_of_ble_eq_true rfl) ⟨rfl, rfl, Nat.le_of_ble_eq_true rfl, Nat.le_of_ble_eq_true rfl⟩ dX6_nextToward_3 (fun H locs hw => ?_)
  refine lv_istore (lv' := [(4, .int q1), (0, .ref o), (1, .ref r1), (2, .int a2), (3, .int a3)]) hx hb dX6_nextToward_6 hl (by decide) rfl (fun ls hl => ?_)
  refine lv_iconst (v := 0) hx hb dX6_nextToward_8 (by decide) ?_
  refine lv_istore (lv' := [(5, .int 0), (4, .int q1), (0, .ref o), (1, .ref r1), (2, .int a2), (3, .int a3)]) hx hb dX6_nextToward_9 hl (by decide) rfl (fun ls hl => ?_)
  refine nc_loop_w (P := fun κ : Int32 → Option (Int32) => ∀ (x2 : Int32), κ x2 = some res → ∀ (H : Heap) (locs : List Loc) (ls : Array Slot), nc_W G K mi H locs → lv_has ls 7 [(1, .ref r1), (2, .int a2), (3, .int a3), (4, .int q1), (5, .int x2)] → W p l e rm_X6_nextToward s m args below meth c H locs 0 0 Q (F0 m 11 ls [])) ?_ ?_ 200 _ hf _ _ _ hw (lv_sub hl [3, 4, 5, 1, 0] rfl)
  · intro x2 hf; exact absurd hf (by intro q; cases q)
  · intro rc3 ihrc3 x2 hf H locs ls hw hl
    unfold B_X6_nextToward_11 at hf
    refine lv_iload hx hb dX6_nextToward_11 (lv_at hl 4 rfl) ?_
    refine lv_aload_n hx hb dX6_nextToward_13 rfl (lv_at hl 0 rfl) ?_
    refine gi_X6_40 cx hw (lTown_is h1) dX6_nextToward_14 ?_
    refine lv_icmp_ge (tgt := 58) hx hb dX6_nextToward_17 (by decide) (fun c4 => ?_) (fun c4 => ?_)
    · have hf := nc_ifp hf c4
      refine lv_iload_n hx hb dX6_nextToward_58 rfl (lv_at hl 2 rfl) ?_
      exact nc_rpp hret hf rfl hw dX6_nextToward_59
    · have hf := nc_ifn hf c4
      refine lv_aload_n hx hb dX6_nextToward_20 rfl (lv_at hl 0 rfl) ?_
      refine lv_iload_n hx hb dX6_nextToward_21 rfl (lv_at hl 1 rfl) ?_
      refine lv_iload hx hb dX6_nextToward_22 (lv_at hl 4 rfl) ?_
      obtain ⟨q5, hq5, hf⟩ := nc_bi hf
      refine nc_callVi cx hw lk_X6_37 (c_X5_wayBetween l h1 mi a2 x2 q5 hq5) (ci := 5) rfl (lTown_is h1) rfl hl.1 rfl (Nat.le_of_ble_eq_true rfl) ⟨rfl, rfl, Nat.le_of_ble_eq_true rfl, Nat.le_of_ble_eq_true rfl⟩ dX6_nextToward_24 (fun H locs hw => ?_)
      refine lv_istore (lv' := [(6, .int q5), (1, .ref r1), (2, .int a2), (3, .int a3), (4, .int q1), (5, .int x2)]) hx hb dX6_nextToward_27 hl (by decide) rfl (fun ls hl => ?_)
      refine lv_iload hx hb dX6_nextToward_29 (lv_at hl 0 rfl) ?_
      refine lv_if_le (tgt := 52) hx hb dX6_nextToward_31 (by decide) (fun c6 => ?_) (fun c6 => ?_)
      · have hf := nc_ifp hf c6
        obtain ⟨x7, ex7⟩ : ∃ y : Int32, y = x2 + 1 := ⟨_, rfl⟩
        have hf := nc_let_at hf ex7
        refine lv_iinc (v := x7) (lv' := [(5, .int x7), (6, .int q5), (1, .ref r1), (2, .int a2), (3, .int a3), (4, .int q1)]) hx hb dX6_nextToward_52 hl (k := 5) rfl (by rw [ex7]; rfl) (by decide) rfl (fun ls hl => ?_)
        refine lv_goto (tgt := 11) hx hb dX6_nextToward_55 (by decide) ?_
        exact ihrc3 _ hf _ _ _ hw (lv_sub hl [2, 3, 4, 5, 0] rfl)
      · have hf := nc_ifn hf c6
        refine lv_iload hx hb dX6_nextToward_34 (lv_at hl 0 rfl) ?_
        refine lv_aload_n hx hb dX6_nextToward_36 rfl (lv_at hl 1 rfl) ?_
        refine lv_iload hx hb dX6_nextToward_37 (lv_at hl 5 rfl) ?_
        refine lv_iload_n hx hb dX6_nextToward_39 rfl (lv_at hl 3 rfl) ?_
        obtain ⟨q8, hq8, hf⟩ := nc_bi hf
        refine nc_callVi cx hw lk_X6_22 (c_X5_leastBetween l h1 mi x2 a3 q8 hq8) (ci := 5) rfl (lTown_is h1) rfl hl.1 rfl (Nat.le_of_ble_eq_true rfl) ⟨rfl, rfl, Nat.le_of_ble_eq_true rfl, Nat.le_of_ble_eq_true rfl⟩ dX6_nextToward_40 (fun H locs hw => ?_)
        refine lv_iadd hx hb dX6_nextToward_43 ?_
        refine lv_iload hx hb dX6_nextToward_44 (lv_at hl 4 rfl) ?_
        refine lv_icmp_ne (tgt := 52) hx hb dX6_nextToward_46 (by decide) (fun c9 => ?_) (fun c9 => ?_)
        · have hf := nc_ifn hf c9
          obtain ⟨x10, ex10⟩ : ∃ y : Int32, y = x2 + 1 := ⟨_, rfl⟩
          have hf := nc_let_at hf ex10
          refine lv_iinc (v := x10) (lv' := [(5, .int x10), (6, .int q5), (1, .ref r1), (2, .int a2), (3, .int a3), (4, .int q1)]) hx hb dX6_nextToward_52 hl (k := 5) rfl (by rw [ex10]; rfl) (by decide) rfl (fun ls hl => ?_)
          refine lv_goto (tgt := 11) hx hb dX6_nextToward_55 (by decide) ?_
          exact ihrc3 _ hf _ _ _ hw (lv_sub hl [2, 3, 4, 5, 0] rfl)
        · have hf := nc_ifp hf c9
          refine lv_iload hx hb dX6_nextToward_49 (lv_at hl 5 rfl) ?_
          exact nc_rpp hret hf rfl hw dX6_nextToward_51
abbrev rm_X6_lead : Room := { frames := 3, cells := 0, slots := 0, locals := 69 }
set_option maxRecDepth 100000 in
set_option maxHeartbeats 4000000 in
theorem c_X6_lead (l : Launch) {G : nc_G} {K : nc_K} {o r1 : Nat} (h0 : nc_LWay G K o) (h1 : nc_LTown G K r1) (mi : nc_Mem) (a2 a3 a4 : Int32) (res : nc_Mem) (hf : f_X6_lead mi o r1 a2 a3 a4 = some res) : nc_M l yX6_lead cX6_lead 9 none rm_X6_lead 0 0 G K K [.ref o, .ref r1, .int a2, .int a3, .int a4] mi res none := by
  refine nc_meet_v (by decide) (Nat.le_of_ble_eq_true rfl) ?_
  intro p e s m args below meth c Q H locs ls cx hret hw hl
  have cx : nc_C p s m args c cX6_lead 9 RX6 G := cx
  have hl : lv_has ls 9 [(0, .ref o), (1, .ref r1), (2, .int a2), (3, .int a3), (4, .int a4)] := hl
  have hx := cx.1
  have hb := cx.2.1
  unfold f_X6_lead at hf
  refine lv_aload_n hx hb dX6_lead_0 rfl (lv_at hl 0 rfl) ?_
  refine lv_iconst (v := 0) hx hb dX6_lead_1 (by decide) ?_
  refine pi_X6_18 cx hw (lWay_is h0) dX6_lead_2 (fun mi1 H locs emi1 hw => ?_)
  have hf := nc_let_at hf emi1
  refine lv_aload_n hx hb dX6_lead_5 rfl (lv_at hl 1 rfl) ?_
  refine lv_iload_n hx hb dX6_lead_6 rfl (lv_at hl 2 rfl) ?_
  refine lv_iload_n hx hb dX6_lead_7 rfl (lv_at hl 3 rfl) ?_
  obtain ⟨q2, hq2, hf⟩ := nc_bi hf
  refine nc_callVi cx hw lk_X6_22 (c_X5_leastBetween l h1 mi1 a2 a3 q2 hq2) (ci := 5) rfl (lTown_is h1) rfl hl.1 rfl (Nat.le_of_ble_eq_true rfl) ⟨rfl, rfl, Nat.le_of_ble_eq_true rfl, Nat.le_of_ble_eq_true rfl⟩ dX6_lead_8 (fun H locs hw => ?_)
  refine nc_ldc (v := 1000000) cx kc_X6_28 dX6_lead_11 ?_
  refine lv_icmp_lt (tgt := 17) hx hb dX6_lead_13 (by decide) (fun c3 => ?_) (fun c3 => ?_)
  · have hf := nc_ifp hf c3
    refine lv_iload_n hx hb dX6_lead_17 rfl (lv_at hl 2 rfl) ?_
    refine lv_istore (lv' := [(5, .int a2), (0, .ref o), (1, .ref r1), (2, .int a2), (3, .int a3), (4, .int a4)]) hx hb dX6_lead_18 hl (by decide) rfl (fun ls hl => ?_)
    refine lv_iload hx hb dX6_lead_20 (lv_at hl 5 rfl) ?_
    refine lv_istore (lv' := [(6, .int a4), (5, .int a2), (0, .ref o), (1, .ref r1), (2, .int a2), (3, .int a3), (4, .int a4)]) hx hb dX6_lead_22 hl (by decide) rfl (fun ls hl => ?_)
    refine lv_aload_n hx hb dX6_lead_24 rfl (lv_at hl 2 rfl) ?_
    refine lv_iload hx hb dX6_lead_25 (lv_at hl 1 rfl) ?_
    refine lv_iload hx hb dX6_lead_27 (lv_at hl 0 rfl) ?_
    obtain ⟨q4, hq4, hf⟩ := nc_bi hf
    refine nc_callVv cx hw lk_X6_29 (c_X6_append l h0 mi1 a2 a4 q4 hq4) (ci := 6) rfl (lWay_is h0) rfl hl.1 rfl (Nat.le_of_ble_eq_true rfl) ⟨rfl, rfl, Nat.le_of_ble_eq_true rfl, Nat.le_of_ble_eq_true rfl⟩ dX6_lead_29 (fun H locs hw => ?_)
    refine lv_iconst (v := 1) hx hb dX6_lead_32 (by decide) ?_
    refine lv_istore (lv' := [(7, .int 1), (6, .int a4), (5, .int a2), (0, .ref o), (1, .ref r1), (2, .int a2), (3, .int a3), (4, .int a4)]) hx hb dX6_lead_33 hl (by decide) rfl (fun ls hl => ?_)
    refine nc_loop_w (P := fun κ : Int32 → Int32 → Int32 → nc_Mem → Option (nc_Mem) => ∀ (x5 : Int32) (x6 : Int32) (x7 : Int32) (mi8 : nc_Mem), κ x5 x6 x7 mi8 = some res → ∀ (H : Heap) (locs : List Loc) (ls : Array Slot), nc_W G K mi8 H locs → lv_has ls 9 [(0, .ref o), (1, .ref r1), (3, .int a3), (5, .int x5), (6, .int x6), (7, .int x7)] → W p l e rm_X6_lead s m args below meth c H locs 0 0 Q (F0 m 35 ls [])) ?_ ?_ 200 _ _ _ _ hf _ _ _ hw (lv_sub hl [3, 4, 6, 2, 1, 0] rfl)
    · intro x5 x6 x7 mi8 hf; exact absurd hf (by intro q; cases q)
    · intro rc9 ihrc9 x5 x6 x7 mi8 hf H locs ls hw hl
      unfold B_X6_lead_35 at hf
      refine lv_iload hx hb dX6_lead_35 (lv_at hl 5 rfl) ?_
      refine lv_bipush (v := 7) hx hb dX6_lead_37 (by decide) ?_
      refine lv_icmp_ge (tgt := 89) hx hb dX6_lead_39 (by decide) (fun c10 => ?_) (fun c10 => ?_)
      · have hf := nc_ifp hf c10
        exact nc_vpm hret hf hw dX6_lead_89
      · have hf := nc_ifn hf c10
        refine lv_iload hx hb dX6_lead_42 (lv_at hl 3 rfl) ?_
        refine lv_iload_n hx hb dX6_lead_44 rfl (lv_at hl 2 rfl) ?_
        refine lv_icmp_eq (tgt := 89) hx hb dX6_lead_45 (by decide) (fun c11 => ?_) (fun c11 => ?_)
        · have hf := nc_ifp hf c11
          exact nc_vpm hret hf hw dX6_lead_89
        · have hf := nc_ifn hf c11
          refine lv_aload_n hx hb dX6_lead_48 rfl (lv_at hl 0 rfl) ?_
          refine lv_aload_n hx hb dX6_lead_49 rfl (lv_at hl 1 rfl) ?_
          refine lv_iload hx hb dX6_lead_50 (lv_at hl 3 rfl) ?_
          refine lv_iload_n hx hb dX6_lead_52 rfl (lv_at hl 2 rfl) ?_
          obtain ⟨q12, hq12, hf⟩ := nc_bi hf
          refine nc_callVi cx hw lk_X6_33 (c_X6_nextToward l h0 h1 mi8 x5 a3 q12 hq12) (ci := 6) rfl (lWay_is h0) rfl hl.1 rfl (Nat.le_of_ble_eq_true rfl) ⟨rfl, rfl, Nat.le_of_ble_eq_true rfl, Nat.le_of_ble_eq_true rfl⟩ dX6_lead_53 (fun H locs hw => ?_)
          refine lv_istore (lv' := [(8, .int q12), (0, .ref o), (1, .ref r1), (3, .int a3), (5, .int x5), (6, .int x6), (7, .int x7)]) hx hb dX6_lead_56 hl (by decide) rfl (fun ls hl => ?_)
          refine lv_iload hx hb dX6_lead_58 (lv_at hl 5 rfl) ?_
          refine lv_aload_n hx hb dX6_lead_60 rfl (lv_at hl 2 rfl) ?_
          refine lv_iload hx hb dX6_lead_61 (lv_at hl 4 rfl) ?_
          refine lv_iload hx hb dX6_lead_63 (lv_at hl 0 rfl) ?_
          obtain ⟨q13, hq13, hf⟩ := nc_bi hf
          refine nc_callVi cx hw lk_X6_37 (c_X5_wayBetween l h1 mi8 x5 q12 q13 hq13) (ci := 5) rfl (lTown_is h1) rfl hl.1 rfl (Nat.le_of_ble_eq_true rfl) ⟨rfl, rfl, Nat.le_of_ble_eq_true rfl, Nat.le_of_ble_eq_true rfl⟩ dX6_lead_65 (fun H locs hw => ?_)
          refine lv_iadd hx hb dX6_lead_68 ?_
          refine lv_topi (fun x14 ex14 => ?_)
          have hf := nc_let_at hf ex14
          refine lv_istore (lv' := [(6, .int x14), (8, .int q12), (0, .ref o), (1, .ref r1), (3, .int a3), (5, .int x5), (7, .int x7)]) hx hb dX6_lead_69 hl (by decide) rfl (fun ls hl => ?_)
          refine lv_iload hx hb dX6_lead_71 (lv_at hl 1 rfl) ?_
          refine lv_istore (lv' := [(5, .int q12), (6, .int x14), (8, .int q12), (0, .ref o), (1, .ref r1), (3, .int a3), (7, .int x7)]) hx hb dX6_lead_73 hl (by decide) rfl (fun ls hl => ?_)
          refine lv_aload_n hx hb dX6_lead_75 rfl (lv_at hl 3 rfl) ?_
          refine lv_iload hx hb dX6_lead_76 (lv_at hl 0 rfl) ?_
          refine lv_iload hx hb dX6_lead_78 (lv_at hl 1 rfl) ?_
          obtain ⟨q15, hq15, hf⟩ := nc_bi hf
          refine nc_callVv cx hw lk_X6_29 (c_X6_append l h0 mi8 q12 x14 q15 hq15) (ci := 6) rfl (lWay_is h0) rfl hl.1 rfl (Nat.le_of_ble_eq_true rfl) ⟨rfl, rfl, Nat.le_of_ble_eq_true rfl, Nat.le_of_ble_eq_true rfl⟩ dX6_lead_80 (fun H locs hw => ?_)
          obtain ⟨x16, ex16⟩ : ∃ y : Int32, y = x7 + 1 := ⟨_, rfl⟩
          have hf := nc_let_at hf ex16
          refine lv_iinc (v := x16) (lv' := [(7, .int x16), (5, .int q12), (6, .int x14), (8, .int q12), (0, .ref o), (1, .ref r1), (3, .int a3)]) hx hb dX6_lead_83 hl (k := 6) rfl (by rw [ex16]; rfl) (by decide) rfl (fun ls hl => ?_)
          refine lv_goto (tgt := 35) hx hb dX6_lead_86 (by decide) ?_
          exact ihrc9 _ _ _ _ hf _ _ _ hw (lv_sub hl [4, 5, 6, 1, 2, 0] rfl)
  · have hf := nc_ifn hf c3
    exact nc_vpm hret hf hw dX6_lead_16
abbrev rm_X2_leadFrom : Room := { frames := 4, cells := 0, slots := 0, locals := 97 }
set_option maxRecDepth 100000 in
set_option maxHeartbeats 4000000 in
theorem c_X2_leadFrom (l : Launch) {G : nc_G} {K : nc_K} {o : Nat} (h0 : nc_LNC G K o) (mi : nc_Mem) (a1 a2 : Int32) (res : nc_Mem) (hf : f_X2_leadFrom mi o a1 a2 = some res) : nc_M l yX2_leadFrom cX2_leadFrom 4 none rm_X2_leadFrom 0 0 G K K [.ref (o + 55), .int a1, .int a2] mi res none := by
  refine nc_meet_v (by decide) (Nat.le_of_ble_eq_true rfl) ?_
  intro p e s m args below meth c Q H locs ls cx hret hw hl
  have cx : nc_C p s m args c cX2_leadFrom 4 RX2 G := cx
  have hl : lv_has ls 4 [(0, .ref (o + 55)), (1, .int a1), (2, .int a2)] := hl
  have hx := cx.1
  have hb := cx.2.1
  unfold f_X2_leadFrom at hf
  refine lv_aload_n hx hb dX2_leadFrom_0 rfl (lv_at hl 0 rfl) ?_
  refine gr_X2_24 cx hw (lNC_mind_L h0) (lNC_m_town h0) (lTown_is (lNC_now_L h0)) dX2_leadFrom_1 ?_
  refine gr_X2_48 cx hw (lTown_is (lNC_now_L h0)) (lTown_people (lNC_now_L h0)) (lTown_people_L (lNC_now_L h0)) dX2_leadFrom_4 ?_
  refine lv_iload_n hx hb dX2_leadFrom_7 rfl (lv_at hl 2 rfl) ?_
  obtain ⟨j1, ej1, ij1, lj1, hf⟩ := nc_ix hf
  refine nc_ald cx hw (by decide) (lTown_people_L (lNC_now_L h0)) ij1 ej1 ((lTown_people_E (lNC_now_L h0) j1 lj1)).1 (lPerson_is ((lTown_people_E (lNC_now_L h0) j1 lj1)).2) dX2_leadFrom_8 ?_
  refine lv_astore_n (lv' := [(3, .ref (o + 1 + 5 + j1)), (0, .ref (o + 55)), (1, .int a1), (2, .int a2)]) hx hb dX2_leadFrom_9 rfl hl (by decide) rfl (fun ls hl => ?_)
  refine lv_aload_n hx hb dX2_leadFrom_10 rfl (lv_at hl 1 rfl) ?_
  refine gr_X2_11 cx hw (lNC_mind_L h0) (lNC_m_ways h0) (lNC_m_ways_L h0) dX2_leadFrom_11 ?_
  refine lv_iload_n hx hb dX2_leadFrom_14 rfl (lv_at hl 2 rfl) ?_
  obtain ⟨j2, ej2, ij2, lj2, hf⟩ := nc_ix hf
  refine nc_ald cx hw (by decide) (lNC_m_ways_L h0) ij2 ej2 ((lNC_m_ways_E h0 j2 lj2)).1 (lWay_is ((lNC_m_ways_E h0 j2 lj2)).2) dX2_leadFrom_15 ?_
  refine lv_aload_n hx hb dX2_leadFrom_16 rfl (lv_at hl 1 rfl) ?_
  refine gr_X2_24 cx hw (lNC_mind_L h0) (lNC_m_town h0) (lTown_is (lNC_now_L h0)) dX2_leadFrom_17 ?_
  refine lv_aload_n hx hb dX2_leadFrom_20 rfl (lv_at hl 0 rfl) ?_
  refine gi_X2_52 cx hw (lPerson_is ((lTown_people_E (lNC_now_L h0) j1 lj1)).2) dX2_leadFrom_21 ?_
  refine lv_aload_n hx hb dX2_leadFrom_24 rfl (lv_at hl 0 rfl) ?_
  refine gi_X2_57 cx hw (lPerson_is ((lTown_people_E (lNC_now_L h0) j1 lj1)).2) dX2_leadFrom_25 ?_
  refine lv_aload_n hx hb dX2_leadFrom_28 rfl (lv_at hl 1 rfl) ?_
  refine gr_X2_24 cx hw (lNC_mind_L h0) (lNC_m_town h0) (lTown_is (lNC_now_L h0)) dX2_leadFrom_29 ?_
  refine gr_X2_48 cx hw (lTown_is (lNC_now_L h0)) (lTown_people (lNC_now_L h0)) (lTown_people_L (lNC_now_L h0)) dX2_leadFrom_32 ?_
  refine lv_iload_n hx hb dX2_leadFrom_35 rfl (lv_at hl 2 rfl) ?_
  refine nc_ald cx hw (by decide) (lTown_people_L (lNC_now_L h0)) ij2 ej2 ((lTown_people_E (lNC_now_L h0) j2 lj2)).1 (lPerson_is ((lTown_people_E (lNC_now_L h0) j2 lj2)).2) dX2_leadFrom_36 ?_
  refine gi_X2_60 cx hw (lPerson_is ((lTown_people_E (lNC_now_L h0) j2 lj2)).2) dX2_leadFrom_37 ?_
  obtain ⟨q3, hq3, hf⟩ := nc_bi hf
  refine nc_callVv cx hw lk_X2_63 (c_X6_lead l ((lNC_m_ways_E h0 j2 lj2)).2 (lNC_now_L h0) mi (mi (o + 1 + 5 + j1) 0) (mi (o + 1 + 5 + j1) 1) (mi (o + 1 + 5 + j2) 2) q3 hq3) (ci := 6) rfl (lWay_is ((lNC_m_ways_E h0 j2 lj2)).2) rfl hl.1 rfl (Nat.le_of_ble_eq_true rfl) ⟨rfl, rfl, Nat.le_of_ble_eq_true rfl, Nat.le_of_ble_eq_true rfl⟩ dX2_leadFrom_40 (fun H locs hw => ?_)
  exact nc_vpm hret hf hw dX2_leadFrom_43
abbrev rm_X2_recall : Room := { frames := 5, cells := 0, slots := 0, locals := 120 }
set_option maxRecDepth 100000 in
set_option maxHeartbeats 4000000 in
theorem c_X2_recall (l : Launch) {G : nc_G} {K : nc_K} {o : Nat} (h0 : nc_LNC G K o) (mi : nc_Mem)  (res : nc_Mem) (hf : f_X2_recall mi o = some res) : nc_M l yX2_recall cX2_recall 2 none rm_X2_recall 0 0 G K K [.ref (o + 55)] mi res none := by
  refine nc_meet_v (by decide) (Nat.le_of_ble_eq_true rfl) ?_
  intro p e s m args below meth c Q H locs ls cx hret hw hl
  have cx : nc_C p s m args c cX2_recall 2 RX2 G := cx
  have hl : lv_has ls 2 [(0, .ref (o + 55))] := hl
  have hx := cx.1
  have hb := cx.2.1
  unfold f_X2_recall at hf
  refine lv_aload_n hx hb dX2_recall_0 rfl (lv_at hl 0 rfl) ?_
  refine lv_aload_n hx hb dX2_recall_1 rfl (lv_at hl 0 rfl) ?_
  refine gr_X2_24 cx hw (lNC_mind_L h0) (lNC_m_town h0) (lTown_is (lNC_now_L h0)) dX2_recall_2 ?_
  refine gi_X2_29 cx hw (lTown_is (lNC_now_L h0)) dX2_recall_5 ?_
  refine pi_X2_35 cx hw (lNC_mind_L h0) dX2_recall_8 (fun mi1 H locs emi1 hw => ?_)
  have hf := nc_let_at hf emi1
  refine lv_aload_n hx hb dX2_recall_11 rfl (lv_at hl 0 rfl) ?_
  refine lv_bipush (v := (-9)) hx hb dX2_recall_12 (by decide) ?_
  refine pi_X2_38 cx hw (lNC_mind_L h0) dX2_recall_14 (fun mi2 H locs emi2 hw => ?_)
  have hf := nc_let_at hf emi2
  refine lv_iconst (v := 0) hx hb dX2_recall_17 (by decide) ?_
  refine lv_istore_n (lv' := [(1, .int 0), (0, .ref (o + 55))]) hx hb dX2_recall_18 rfl hl (by decide) rfl (fun ls hl => ?_)
  refine nc_loop_w (P := fun κ : Int32 → nc_Mem → Option (nc_Mem) => ∀ (x3 : Int32) (mi4 : nc_Mem), κ x3 mi4 = some res → ∀ (H : Heap) (locs : List Loc) (ls : Array Slot), nc_W G K mi4 H locs → lv_has ls 2 [(0, .ref (o + 55)), (1, .int x3)] → W p l e rm_X2_recall s m args below meth c H locs 0 0 Q (F0 m 19 ls [])) ?_ ?_ 200 _ _ hf _ _ _ hw (lv_sub hl [1, 0] rfl)
  · intro x3 mi4 hf; exact absurd hf (by intro q; cases q)
  · intro rc5 ihrc5 x3 mi4 hf H locs ls hw hl
    unfold B_X2_recall_19 at hf
    refine lv_iload_n hx hb dX2_recall_19 rfl (lv_at hl 1 rfl) ?_
    refine lv_aload_n hx hb dX2_recall_20 rfl (lv_at hl 0 rfl) ?_
    refine gr_X2_24 cx hw (lNC_mind_L h0) (lNC_m_town h0) (lTown_is (lNC_now_L h0)) dX2_recall_21 ?_
    refine gi_X2_41 cx hw (lTown_is (lNC_now_L h0)) dX2_recall_24 ?_
    refine lv_icmp_ge (tgt := 42) hx hb dX2_recall_27 (by decide) (fun c6 => ?_) (fun c6 => ?_)
    · have hf := nc_ifp hf c6
      exact nc_vpm hret hf hw dX2_recall_42
    · have hf := nc_ifn hf c6
      refine lv_aload_n hx hb dX2_recall_30 rfl (lv_at hl 0 rfl) ?_
      refine lv_iload_n hx hb dX2_recall_31 rfl (lv_at hl 1 rfl) ?_
      refine lv_iload_n hx hb dX2_recall_32 rfl (lv_at hl 1 rfl) ?_
      obtain ⟨q7, hq7, hf⟩ := nc_bi hf
      refine nc_callVv cx hw lk_X2_44 (c_X2_leadFrom l h0 mi4 x3 x3 q7 hq7) (ci := 2) rfl (lNC_mind_L h0) rfl hl.1 rfl (Nat.le_of_ble_eq_true rfl) ⟨rfl, rfl, Nat.le_of_ble_eq_true rfl, Nat.le_of_ble_eq_true rfl⟩ dX2_recall_33 (fun H locs hw => ?_)
      obtain ⟨x8, ex8⟩ : ∃ y : Int32, y = x3 + 1 := ⟨_, rfl⟩
      have hf := nc_let_at hf ex8
      refine lv_iinc (v := x8) (lv' := [(1, .int x8), (0, .ref (o + 55))]) hx hb dX2_recall_36 hl (k := 1) rfl (by rw [ex8]; rfl) (by decide) rfl (fun ls hl => ?_)
      refine lv_goto (tgt := 19) hx hb dX2_recall_39 (by decide) ?_
      exact ihrc5 _ _ hf _ _ _ hw (lv_sub hl [1, 0] rfl)
abbrev rm_J7_fill_53178 : Room := { frames := 0, cells := 0, slots := 0, locals := 0 }
set_option maxRecDepth 100000 in
set_option maxHeartbeats 4000000 in
theorem c_J7_fill_53178 (l : Launch) {G : nc_G} {K : nc_K} {r0 n0 : Nat} (h0 : nc_Is G K r0 (9, n0)) (mi : nc_Mem) (a1 : Int32) (res : nc_Mem) (hf : f_J7_fill_53178 mi r0 n0 a1 = some res) : nc_M l yJ7_fill_53178 cJ7_fill_53178 4 none rm_J7_fill_53178 0 0 G K K [.ref r0, .int a1] mi res none := by
  refine nc_meet_v (by decide) (Nat.le_of_ble_eq_true rfl) ?_
  intro p e s m args below meth c Q H locs ls cx hret hw hl
  have cx : nc_C p s m args c cJ7_fill_53178 4 RJ7 G := cx
  have hl : lv_has ls 4 [(0, .ref r0), (1, .int a1)] := hl
  have hx := cx.1
  have hb := cx.2.1
  unfold f_J7_fill_53178 at hf
  refine lv_iconst (v := 0) hx hb dJ7_fill_53178_0 (by decide) ?_
  refine lv_istore_n (lv' := [(2, .int 0), (0, .ref r0), (1, .int a1)]) hx hb dJ7_fill_53178_1 rfl hl (by decide) rfl (fun ls hl => ?_)
  refine lv_aload_n hx hb dJ7_fill_53178_2 rfl (lv_at hl 1 rfl) ?_
  refine nc_alen (v := (Int32.ofNat n0)) cx hw h0 rfl dJ7_fill_53178_3 ?_
  refine lv_topi (fun x1 ex1 => ?_)
  have hf := nc_let_at hf ex1
  refine lv_istore_n (lv' := [(3, .int x1), (2, .int 0), (0, .ref r0), (1, .int a1)]) hx hb dJ7_fill_53178_4 rfl hl (by decide) rfl (fun ls hl => ?_)
  refine nc_loop_w (P := fun κ : Int32 → nc_Mem → Option (nc_Mem) => ∀ (x2 : Int32) (mi3 : nc_Mem), κ x2 mi3 = some res → ∀ (H : Heap) (locs : List Loc) (ls : Array Slot), nc_W G K mi3 H locs → lv_has ls 4 [(0, .ref r0), (1, .int a1), (2, .int x2), (3, .int x1)] → W p l e rm_J7_fill_53178 s m args below meth c H locs 0 0 Q (F0 m 5 ls [])) ?_ ?_ 500 _ _ hf _ _ _ hw (lv_sub hl [2, 3, 1, 0] rfl)
  · intro x2 mi3 hf; exact absurd hf (by intro q; cases q)
  · intro rc4 ihrc4 x2 mi3 hf H locs ls hw hl
    unfold B_J7_fill_53178_5 at hf
    refine lv_iload_n hx hb dJ7_fill_53178_5 rfl (lv_at hl 2 rfl) ?_
    refine lv_iload_n hx hb dJ7_fill_53178_6 rfl (lv_at hl 3 rfl) ?_
    refine lv_icmp_ge (tgt := 20) hx hb dJ7_fill_53178_7 (by decide) (fun c5 => ?_) (fun c5 => ?_)
    · have hf := nc_ifp hf c5
      exact nc_vpm hret hf hw dJ7_fill_53178_20
    · have hf := nc_ifn hf c5
      refine lv_aload_n hx hb dJ7_fill_53178_10 rfl (lv_at hl 0 rfl) ?_
      refine lv_iload_n hx hb dJ7_fill_53178_11 rfl (lv_at hl 2 rfl) ?_
      refine lv_iload_n hx hb dJ7_fill_53178_12 rfl (lv_at hl 1 rfl) ?_
      obtain ⟨j6, ej6, ij6, lj6, hf⟩ := nc_ix hf
      refine nc_ist cx hw h0 ij6 ej6 dJ7_fill_53178_13 (fun mi7 H locs emi7 hw => ?_)
      have hf := nc_let_at hf emi7
      obtain ⟨x8, ex8⟩ : ∃ y : Int32, y = x2 + 1 := ⟨_, rfl⟩
      have hf := nc_let_at hf ex8
      refine lv_iinc (v := x8) (lv' := [(2, .int x8), (0, .ref r0), (1, .int a1), (3, .int x1)]) hx hb dJ7_fill_53178_14 hl (k := 2) rfl (by rw [ex8]; rfl) (by decide) rfl (fun ls hl => ?_)
      refine lv_goto (tgt := 5) hx hb dJ7_fill_53178_17 (by decide) ?_
      exact ihrc4 _ _ hf _ _ _ hw (lv_sub hl [1, 2, 0, 3] rfl)
abbrev rm_X2_lets : Room := { frames := 1, cells := 0, slots := 0, locals := 27 }
set_option maxRecDepth 100000 in
set_option maxHeartbeats 4000000 in
theorem c_X2_lets (l : Launch) {G : nc_G} {K : nc_K} {o : Nat} (h0 : nc_LNC G K o) (mi : nc_Mem) (a1 a2 a3 : Int32) (res : Int32) (hf : f_X2_lets mi o a1 a2 a3 = some res) : nc_M l yX2_lets cX2_lets 4 (some .boolean) rm_X2_lets 0 0 G K K [.ref (o + 55), .int a1, .int a2, .int a3] mi mi (some (.int res)) := by
  refine nc_meet_i (by decide) (Nat.le_of_ble_eq_true rfl) ?_
  intro p e s m args below meth c Q H locs ls cx hret hw hl
  have cx : nc_C p s m args c cX2_lets 4 RX2 G := cx
  have hl : lv_has ls 4 [(0, .ref (o + 55)), (1, .int a1), (2, .int a2), (3, .int a3)] := hl
  have hx := cx.1
  have hb := cx.2.1
  unfold f_X2_lets at hf
  refine lv_aload_n hx hb dX2_lets_0 rfl (lv_at hl 0 rfl) ?_
  refine gr_X2_24 cx hw (lNC_mind_L h0) (lNC_m_town h0) (lTown_is (lNC_now_L h0)) dX2_lets_1 ?_
  refine lv_iload_n hx hb dX2_lets_4 rfl (lv_at hl 1 rfl) ?_
  refine lv_iload_n hx hb dX2_lets_5 rfl (lv_at hl 2 rfl) ?_
  obtain ⟨q1, hq1, hf⟩ := nc_bi hf
  refine nc_callVi cx hw lk_X2_67 (c_X5_fits l (lNC_now_L h0) mi a1 a2 q1 hq1) (ci := 5) rfl (lTown_is (lNC_now_L h0)) rfl hl.1 rfl (Nat.le_of_ble_eq_true rfl) ⟨rfl, rfl, Nat.le_of_ble_eq_true rfl, Nat.le_of_ble_eq_true rfl⟩ dX2_lets_6 (fun H locs hw => ?_)
  refine lv_if_eq (tgt := 43) hx hb dX2_lets_9 (by decide) (fun c2 => ?_) (fun c2 => ?_)
  · have hf := nc_ifp hf c2
    refine lv_iconst (v := 0) hx hb dX2_lets_43 (by decide) ?_
    exact nc_rpp hret hf rfl hw dX2_lets_44
  · have hf := nc_ifn hf c2
    refine lv_iload_n hx hb dX2_lets_12 rfl (lv_at hl 1 rfl) ?_
    refine lv_aload_n hx hb dX2_lets_13 rfl (lv_at hl 0 rfl) ?_
    refine gi_X2_38 cx hw (lNC_mind_L h0) dX2_lets_14 ?_
    refine lv_icmp_eq (tgt := 39) hx hb dX2_lets_17 (by decide) (fun c3 => ?_) (fun c3 => ?_)
    · have hf := nc_ifp hf c3
      refine lv_iconst (v := 1) hx hb dX2_lets_39 (by decide) ?_
      refine lv_goto (tgt := 44) hx hb dX2_lets_40 (by decide) ?_
      exact nc_rpp hret hf rfl hw dX2_lets_44
    · have hf := nc_ifn hf c3
      refine lv_aload_n hx hb dX2_lets_20 rfl (lv_at hl 0 rfl) ?_
      refine gr_X2_24 cx hw (lNC_mind_L h0) (lNC_m_town h0) (lTown_is (lNC_now_L h0)) dX2_lets_21 ?_
      refine lv_aload_n hx hb dX2_lets_24 rfl (lv_at hl 0 rfl) ?_
      refine gi_X2_35 cx hw (lNC_mind_L h0) dX2_lets_25 ?_
      refine lv_iload_n hx hb dX2_lets_28 rfl (lv_at hl 1 rfl) ?_
      refine lv_iload_n hx hb dX2_lets_29 rfl (lv_at hl 2 rfl) ?_
      refine lv_iload_n hx hb dX2_lets_30 rfl (lv_at hl 3 rfl) ?_
      refine lv_bipush (v := (-9)) hx hb dX2_lets_31 (by decide) ?_
      obtain ⟨q4, hq4, hf⟩ := nc_bi hf
      refine nc_callVi cx hw lk_X2_71 (c_X5_lawLets l (lNC_now_L h0) mi (mi (o + 55) 5) a1 a2 a3 (-9) q4 hq4) (ci := 5) rfl (lTown_is (lNC_now_L h0)) rfl hl.1 rfl (Nat.le_of_ble_eq_true rfl) ⟨rfl, rfl, Nat.le_of_ble_eq_true rfl, Nat.le_of_ble_eq_true rfl⟩ dX2_lets_33 (fun H locs hw => ?_)
      refine lv_if_eq (tgt := 43) hx hb dX2_lets_36 (by decide) (fun c5 => ?_) (fun c5 => ?_)
      · have hf := nc_ifp hf c5
        refine lv_iconst (v := 0) hx hb dX2_lets_43 (by decide) ?_
        exact nc_rpp hret hf rfl hw dX2_lets_44
      · have hf := nc_ifn hf c5
        refine lv_iconst (v := 1) hx hb dX2_lets_39 (by decide) ?_
        refine lv_goto (tgt := 44) hx hb dX2_lets_40 (by decide) ?_
        exact nc_rpp hret hf rfl hw dX2_lets_44
abbrev rm_X2_carryAlong : Room := { frames := 2, cells := 0, slots := 0, locals := 50 }
set_option maxRecDepth 100000 in
set_option maxHeartbeats 4000000 in
theorem c_X2_carryAlong (l : Launch) {G : nc_G} {K : nc_K} {o : Nat} (h0 : nc_LNC G K o) (mi : nc_Mem) (a1 a2 : Int32) (res : nc_Mem × Int32) (hf : f_X2_carryAlong mi o a1 a2 = some res) : nc_M l yX2_carryAlong cX2_carryAlong 8 (some .boolean) rm_X2_carryAlong 0 0 G K K [.ref (o + 55), .int a1, .int a2] mi res.1 (some (.int res.2)) := by
  refine nc_meet_i (by decide) (Nat.le_of_ble_eq_true rfl) ?_
  intro p e s m args below meth c Q H locs ls cx hret hw hl
  have cx : nc_C p s m args c cX2_carryAlong 8 RX2 G := cx
  have hl : lv_has ls 8 [(0, .ref (o + 55)), (1, .int a1), (2, .int a2)] := hl
  have hx := cx.1
  have hb := cx.2.1
  unfold f_X2_carryAlong at hf
  refine lv_aload_n hx hb dX2_carryAlong_0 rfl (lv_at hl 0 rfl) ?_
  refine gr_X2_11 cx hw (lNC_mind_L h0) (lNC_m_ways h0) (lNC_m_ways_L h0) dX2_carryAlong_1 ?_
  refine lv_iload_n hx hb dX2_carryAlong_4 rfl (lv_at hl 1 rfl) ?_
  obtain ⟨j1, ej1, ij1, lj1, hf⟩ := nc_ix hf
  refine nc_ald cx hw (by decide) (lNC_m_ways_L h0) ij1 ej1 ((lNC_m_ways_E h0 j1 lj1)).1 (lWay_is ((lNC_m_ways_E h0 j1 lj1)).2) dX2_carryAlong_5 ?_
  refine lv_astore_n (lv' := [(3, .ref (o + 59 + 3 * j1)), (0, .ref (o + 55)), (1, .int a1), (2, .int a2)]) hx hb dX2_carryAlong_6 rfl hl (by decide) rfl (fun ls hl => ?_)
  refine lv_iconst (v := 0) hx hb dX2_carryAlong_7 (by decide) ?_
  refine lv_istore (lv' := [(4, .int 0), (3, .ref (o + 59 + 3 * j1)), (0, .ref (o + 55)), (1, .int a1), (2, .int a2)]) hx hb dX2_carryAlong_8 hl (by decide) rfl (fun ls hl => ?_)
  refine lv_iconst (v := 0) hx hb dX2_carryAlong_10 (by decide) ?_
  refine lv_istore (lv' := [(5, .int 0), (4, .int 0), (3, .ref (o + 59 + 3 * j1)), (0, .ref (o + 55)), (1, .int a1), (2, .int a2)]) hx hb dX2_carryAlong_11 hl (by decide) rfl (fun ls hl => ?_)
  refine lv_iconst (v := 0) hx hb dX2_carryAlong_13 (by decide) ?_
  refine lv_istore (lv' := [(6, .int 0), (5, .int 0), (4, .int 0), (3, .ref (o + 59 + 3 * j1)), (0, .ref (o + 55)), (1, .int a1), (2, .int a2)]) hx hb dX2_carryAlong_14 hl (by decide) rfl (fun ls hl => ?_)
  refine nc_loop_w (P := fun κ : Int32 → Int32 → Int32 → nc_Mem → Option (nc_Mem × Int32) => ∀ (x2 : Int32) (x3 : Int32) (x4 : Int32) (mi5 : nc_Mem), κ x2 x3 x4 mi5 = some res → ∀ (H : Heap) (locs : List Loc) (ls : Array Slot), nc_W G K mi5 H locs → lv_has ls 8 [(0, .ref (o + 55)), (1, .int a1), (2, .int a2), (3, .ref (o + 59 + 3 * j1)), (4, .int x2), (5, .int x3), (6, .int x4)] → W p l e rm_X2_carryAlong s m args below meth c H locs 0 0 Q (F0 m 16 ls [])) ?_ ?_ 200 _ _ _ _ hf _ _ _ hw (lv_sub hl [4, 5, 6, 3, 2, 1, 0] rfl)
  · intro x2 x3 x4 mi5 hf; exact absurd hf (by intro q; cases q)
  · intro rc6 ihrc6 x2 x3 x4 mi5 hf H locs ls hw hl
    unfold B_X2_carryAlong_16 at hf
    refine lv_iload hx hb dX2_carryAlong_16 (lv_at hl 6 rfl) ?_
    refine lv_aload_n hx hb dX2_carryAlong_18 rfl (lv_at hl 3 rfl) ?_
    refine gi_X2_93 cx hw (lWay_is ((lNC_m_ways_E h0 j1 lj1)).2) dX2_carryAlong_19 ?_
    refine lv_icmp_ge (tgt := 124) hx hb dX2_carryAlong_22 (by decide) (fun c7 => ?_) (fun c7 => ?_)
    · have hf := nc_ifp hf c7
      refine lv_iload hx hb dX2_carryAlong_124 (lv_at hl 5 rfl) ?_
      obtain ⟨hz, hf⟩ := nc_zb_of hf
      exact nc_rpm hret hf hz hw dX2_carryAlong_126
    · have hf := nc_ifn hf c7
      refine lv_aload_n hx hb dX2_carryAlong_25 rfl (lv_at hl 3 rfl) ?_
      refine gr_X2_96 cx hw (lWay_is ((lNC_m_ways_E h0 j1 lj1)).2) (lWay_place ((lNC_m_ways_E h0 j1 lj1)).2) (lWay_place_L ((lNC_m_ways_E h0 j1 lj1)).2) dX2_carryAlong_26 ?_
      refine lv_iload hx hb dX2_carryAlong_29 (lv_at hl 6 rfl) ?_
      obtain ⟨j8, ej8, ij8, lj8, hf⟩ := nc_ix hf
      refine nc_ild cx hw (lWay_place_L ((lNC_m_ways_E h0 j1 lj1)).2) ij8 ej8 dX2_carryAlong_31 ?_
      refine lv_topi (fun x9 ex9 => ?_)
      have hf := nc_let_at hf ex9
      refine lv_istore (lv' := [(7, .int x9), (0, .ref (o + 55)), (1, .int a1), (2, .int a2), (3, .ref (o + 59 + 3 * j1)), (4, .int x2), (5, .int x3), (6, .int x4)]) hx hb dX2_carryAlong_32 hl (by decide) rfl (fun ls hl => ?_)
      refine lv_iload hx hb dX2_carryAlong_34 (lv_at hl 5 rfl) ?_
      obtain ⟨k10, ek10, hf⟩ := nc_jn_of hf
      have hk10 : ∀ (x11 : Int32) (mi12 : nc_Mem), k10 x11 mi12 = some res → ∀ (H : Heap) (locs : List Loc) (ls : Array Slot), nc_W G K mi12 H locs → lv_has ls 8 [(0, .ref (o + 55)), (1, .int a1), (2, .int a2), (3, .ref (o + 59 + 3 * j1)), (4, .int x2), (5, .int x11), (6, .int x4), (7, .int x9)] → W p l e rm_X2_carryAlong s m args below meth c H locs 0 0 Q (F0 m 73 ls []) := by
        intro x11 mi12 hf H locs ls hw hl
        have hf := ((congrFun (congrFun ek10 x11) mi12)).symm.trans hf
        refine lv_iload hx hb dX2_carryAlong_73 (lv_at hl 4 rfl) ?_
        refine lv_if_ne (tgt := 111) hx hb dX2_carryAlong_75 (by decide) (fun c13 => ?_) (fun c13 => ?_)
        · have hf := nc_ifn hf c13
          refine lv_iconst (v := 1) hx hb dX2_carryAlong_111 (by decide) ?_
          refine lv_goto (tgt := 116) hx hb dX2_carryAlong_112 (by decide) ?_
          refine lv_istore (lv' := [(4, .int 1), (0, .ref (o + 55)), (1, .int a1), (2, .int a2), (3, .ref (o + 59 + 3 * j1)), (5, .int x11), (6, .int x4), (7, .int x9)]) hx hb dX2_carryAlong_116 hl (by decide) rfl (fun ls hl => ?_)
          obtain ⟨x14, ex14⟩ : ∃ y : Int32, y = x4 + 1 := ⟨_, rfl⟩
          have hf := nc_let_at hf ex14
          refine lv_iinc (v := x14) (lv' := [(6, .int x14), (4, .int 1), (0, .ref (o + 55)), (1, .int a1), (2, .int a2), (3, .ref (o + 59 + 3 * j1)), (5, .int x11), (7, .int x9)]) hx hb dX2_carryAlong_118 hl (k := 6) rfl (by rw [ex14]; rfl) (by decide) rfl (fun ls hl => ?_)
          refine lv_goto (tgt := 16) hx hb dX2_carryAlong_121 (by decide) ?_
          exact ihrc6 _ _ _ _ hf _ _ _ hw (lv_sub hl [2, 3, 4, 5, 1, 6, 0] rfl)
        · have hf := nc_ifp hf c13
          refine lv_aload_n hx hb dX2_carryAlong_78 rfl (lv_at hl 0 rfl) ?_
          refine gr_X2_17 cx hw (lNC_mind_L h0) (lNC_m_soonestAt h0) (lNC_m_soonestAt_L h0) dX2_carryAlong_79 ?_
          refine lv_iload hx hb dX2_carryAlong_82 (lv_at hl 7 rfl) ?_
          obtain ⟨j15, ej15, ij15, lj15, hf⟩ := nc_ix hf
          refine nc_ild cx hw (lNC_m_soonestAt_L h0) ij15 ej15 dX2_carryAlong_84 ?_
          refine lv_aload_n hx hb dX2_carryAlong_85 rfl (lv_at hl 3 rfl) ?_
          refine gr_X2_99 cx hw (lWay_is ((lNC_m_ways_E h0 j1 lj1)).2) (lWay_minute ((lNC_m_ways_E h0 j1 lj1)).2) (lWay_minute_L ((lNC_m_ways_E h0 j1 lj1)).2) dX2_carryAlong_86 ?_
          refine lv_iload hx hb dX2_carryAlong_89 (lv_at hl 6 rfl) ?_
          refine nc_ild cx hw (lWay_minute_L ((lNC_m_ways_E h0 j1 lj1)).2) ij8 ej8 dX2_carryAlong_91 ?_
          refine lv_icmp_gt (tgt := 115) hx hb dX2_carryAlong_92 (by decide) (fun c16 => ?_) (fun c16 => ?_)
          · have hf := nc_ifp hf c16
            refine lv_iconst (v := 0) hx hb dX2_carryAlong_115 (by decide) ?_
            refine lv_istore (lv' := [(4, .int 0), (0, .ref (o + 55)), (1, .int a1), (2, .int a2), (3, .ref (o + 59 + 3 * j1)), (5, .int x11), (6, .int x4), (7, .int x9)]) hx hb dX2_carryAlong_116 hl (by decide) rfl (fun ls hl => ?_)
            obtain ⟨x17, ex17⟩ : ∃ y : Int32, y = x4 + 1 := ⟨_, rfl⟩
            have hf := nc_let_at hf ex17
            refine lv_iinc (v := x17) (lv' := [(6, .int x17), (4, .int 0), (0, .ref (o + 55)), (1, .int a1), (2, .int a2), (3, .ref (o + 59 + 3 * j1)), (5, .int x11), (7, .int x9)]) hx hb dX2_carryAlong_118 hl (k := 6) rfl (by rw [ex17]; rfl) (by decide) rfl (fun ls hl => ?_)
            refine lv_goto (tgt := 16) hx hb dX2_carryAlong_121 (by decide) ?_
            exact ihrc6 _ _ _ _ hf _ _ _ hw (lv_sub hl [2, 3, 4, 5, 1, 6, 0] rfl)
          · have hf := nc_ifn hf c16
            refine lv_aload_n hx hb dX2_carryAlong_95 rfl (lv_at hl 0 rfl) ?_
            refine lv_iload_n hx hb dX2_carryAlong_96 rfl (lv_at hl 1 rfl) ?_
            refine lv_iload_n hx hb dX2_carryAlong_97 rfl (lv_at hl 2 rfl) ?_
            refine lv_aload_n hx hb dX2_carryAlong_98 rfl (lv_at hl 3 rfl) ?_
            refine gr_X2_99 cx hw (lWay_is ((lNC_m_ways_E h0 j1 lj1)).2) (lWay_minute ((lNC_m_ways_E h0 j1 lj1)).2) (lWay_minute_L ((lNC_m_ways_E h0 j1 lj1)).2) dX2_carryAlong_99 ?_
            refine lv_iload hx hb dX2_carryAlong_102 (lv_at hl 6 rfl) ?_
            refine nc_ild cx hw (lWay_minute_L ((lNC_m_ways_E h0 j1 lj1)).2) ij8 ej8 dX2_carryAlong_104 ?_
            obtain ⟨q18, hq18, hf⟩ := nc_bi hf
            refine nc_callVi cx hw lk_X2_102 (c_X2_lets l h0 mi12 a1 a2 (mi12 (o + 59 + 3 * j1 + 2) j8) q18 hq18) (ci := 2) rfl (lNC_mind_L h0) rfl hl.1 rfl (Nat.le_of_ble_eq_true rfl) ⟨rfl, rfl, Nat.le_of_ble_eq_true rfl, Nat.le_of_ble_eq_true rfl⟩ dX2_carryAlong_105 (fun H locs hw => ?_)
            refine lv_if_eq (tgt := 115) hx hb dX2_carryAlong_108 (by decide) (fun c19 => ?_) (fun c19 => ?_)
            · have hf := nc_ifp hf c19
              refine lv_iconst (v := 0) hx hb dX2_carryAlong_115 (by decide) ?_
              refine lv_istore (lv' := [(4, .int 0), (0, .ref (o + 55)), (1, .int a1), (2, .int a2), (3, .ref (o + 59 + 3 * j1)), (5, .int x11), (6, .int x4), (7, .int x9)]) hx hb dX2_carryAlong_116 hl (by decide) rfl (fun ls hl => ?_)
              obtain ⟨x20, ex20⟩ : ∃ y : Int32, y = x4 + 1 := ⟨_, rfl⟩
              have hf := nc_let_at hf ex20
              refine lv_iinc (v := x20) (lv' := [(6, .int x20), (4, .int 0), (0, .ref (o + 55)), (1, .int a1), (2, .int a2), (3, .ref (o + 59 + 3 * j1)), (5, .int x11), (7, .int x9)]) hx hb dX2_carryAlong_118 hl (k := 6) rfl (by rw [ex20]; rfl) (by decide) rfl (fun ls hl => ?_)
              refine lv_goto (tgt := 16) hx hb dX2_carryAlong_121 (by decide) ?_
              exact ihrc6 _ _ _ _ hf _ _ _ hw (lv_sub hl [2, 3, 4, 5, 1, 6, 0] rfl)
            · have hf := nc_ifn hf c19
              refine lv_iconst (v := 1) hx hb dX2_carryAlong_111 (by decide) ?_
              refine lv_goto (tgt := 116) hx hb dX2_carryAlong_112 (by decide) ?_
              refine lv_istore (lv' := [(4, .int 1), (0, .ref (o + 55)), (1, .int a1), (2, .int a2), (3, .ref (o + 59 + 3 * j1)), (5, .int x11), (6, .int x4), (7, .int x9)]) hx hb dX2_carryAlong_116 hl (by decide) rfl (fun ls hl => ?_)
              obtain ⟨x21, ex21⟩ : ∃ y : Int32, y = x4 + 1 := ⟨_, rfl⟩
              have hf := nc_let_at hf ex21
              refine lv_iinc (v := x21) (lv' := [(6, .int x21), (4, .int 1), (0, .ref (o + 55)), (1, .int a1), (2, .int a2), (3, .ref (o + 59 + 3 * j1)), (5, .int x11), (7, .int x9)]) hx hb dX2_carryAlong_118 hl (k := 6) rfl (by rw [ex21]; rfl) (by decide) rfl (fun ls hl => ?_)
              refine lv_goto (tgt := 16) hx hb dX2_carryAlong_121 (by decide) ?_
              exact ihrc6 _ _ _ _ hf _ _ _ hw (lv_sub hl [2, 3, 4, 5, 1, 6, 0] rfl)
      refine lv_if_eq (tgt := 73) hx hb dX2_carryAlong_36 (by decide) (fun c22 => ?_) (fun c22 => ?_)
      · have hf := nc_ifp hf c22
        exact hk10 _ _ hf _ _ _ hw (lv_sub hl [1, 2, 3, 4, 5, 6, 7, 0] rfl)
      · have hf := nc_ifn hf c22
        refine lv_aload_n hx hb dX2_carryAlong_39 rfl (lv_at hl 4 rfl) ?_
        refine gr_X2_99 cx hw (lWay_is ((lNC_m_ways_E h0 j1 lj1)).2) (lWay_minute ((lNC_m_ways_E h0 j1 lj1)).2) (lWay_minute_L ((lNC_m_ways_E h0 j1 lj1)).2) dX2_carryAlong_40 ?_
        refine lv_iload hx hb dX2_carryAlong_43 (lv_at hl 7 rfl) ?_
        refine nc_ild cx hw (lWay_minute_L ((lNC_m_ways_E h0 j1 lj1)).2) ij8 ej8 dX2_carryAlong_45 ?_
        refine lv_aload_n hx hb dX2_carryAlong_46 rfl (lv_at hl 1 rfl) ?_
        refine gr_X2_17 cx hw (lNC_mind_L h0) (lNC_m_soonestAt h0) (lNC_m_soonestAt_L h0) dX2_carryAlong_47 ?_
        refine lv_iload hx hb dX2_carryAlong_50 (lv_at hl 0 rfl) ?_
        obtain ⟨j23, ej23, ij23, lj23, hf⟩ := nc_ix hf
        refine nc_ild cx hw (lNC_m_soonestAt_L h0) ij23 ej23 dX2_carryAlong_52 ?_
        refine lv_icmp_ge (tgt := 73) hx hb dX2_carryAlong_53 (by decide) (fun c24 => ?_) (fun c24 => ?_)
        · have hf := nc_ifp hf c24
          exact hk10 _ _ hf _ _ _ hw (lv_sub hl [1, 2, 3, 4, 5, 6, 7, 0] rfl)
        · have hf := nc_ifn hf c24
          refine lv_aload_n hx hb dX2_carryAlong_56 rfl (lv_at hl 1 rfl) ?_
          refine gr_X2_17 cx hw (lNC_mind_L h0) (lNC_m_soonestAt h0) (lNC_m_soonestAt_L h0) dX2_carryAlong_57 ?_
          refine lv_iload hx hb dX2_carryAlong_60 (lv_at hl 0 rfl) ?_
          refine lv_aload_n hx hb dX2_carryAlong_62 rfl (lv_at hl 4 rfl) ?_
          refine gr_X2_99 cx hw (lWay_is ((lNC_m_ways_E h0 j1 lj1)).2) (lWay_minute ((lNC_m_ways_E h0 j1 lj1)).2) (lWay_minute_L ((lNC_m_ways_E h0 j1 lj1)).2) dX2_carryAlong_63 ?_
          refine lv_iload hx hb dX2_carryAlong_66 (lv_at hl 7 rfl) ?_
          refine nc_ild cx hw (lWay_minute_L ((lNC_m_ways_E h0 j1 lj1)).2) ij8 ej8 dX2_carryAlong_68 ?_
          refine nc_ist cx hw (lNC_m_soonestAt_L h0) ij23 ej23 dX2_carryAlong_69 (fun mi25 H locs emi25 hw => ?_)
          have hf := nc_let_at hf emi25
          refine lv_iconst (v := 1) hx hb dX2_carryAlong_70 (by decide) ?_
          refine lv_istore (lv' := [(5, .int 1), (7, .int x9), (0, .ref (o + 55)), (1, .int a1), (2, .int a2), (3, .ref (o + 59 + 3 * j1)), (4, .int x2), (6, .int x4)]) hx hb dX2_carryAlong_71 hl (by decide) rfl (fun ls hl => ?_)
          exact hk10 _ _ hf _ _ _ hw (lv_sub hl [2, 3, 4, 5, 6, 0, 7, 1] rfl)
abbrev rm_X2_soonestOf : Room := { frames := 3, cells := 0, slots := 0, locals := 77 }
set_option maxRecDepth 100000 in
set_option maxHeartbeats 4000000 in
theorem c_X2_soonestOf (l : Launch) {G : nc_G} {K : nc_K} {o : Nat} (h0 : nc_LNC G K o) (mi : nc_Mem) (a1 : Int32) (res : nc_Mem × Int32) (hf : f_X2_soonestOf mi o a1 = some res) : nc_M l yX2_soonestOf cX2_soonestOf 6 (some .int) rm_X2_soonestOf 0 0 G K K [.ref (o + 55), .int a1] mi res.1 (some (.int res.2)) := by
  refine nc_meet_i (by decide) (Nat.le_of_ble_eq_true rfl) ?_
  intro p e s m args below meth c Q H locs ls cx hret hw hl
  have cx : nc_C p s m args c cX2_soonestOf 6 RX2 G := cx
  have hl : lv_has ls 6 [(0, .ref (o + 55)), (1, .int a1)] := hl
  have hx := cx.1
  have hb := cx.2.1
  unfold f_X2_soonestOf at hf
  refine lv_aload_n hx hb dX2_soonestOf_0 rfl (lv_at hl 0 rfl) ?_
  refine gr_X2_24 cx hw (lNC_mind_L h0) (lNC_m_town h0) (lTown_is (lNC_now_L h0)) dX2_soonestOf_1 ?_
  refine gr_X2_75 cx hw (lTown_is (lNC_now_L h0)) (lTown_goods (lNC_now_L h0)) (lTown_goods_L (lNC_now_L h0)) dX2_soonestOf_4 ?_
  refine lv_iload_n hx hb dX2_soonestOf_7 rfl (lv_at hl 1 rfl) ?_
  obtain ⟨j1, ej1, ij1, lj1, hf⟩ := nc_ix hf
  refine nc_ald cx hw (by decide) (lTown_goods_L (lNC_now_L h0)) ij1 ej1 ((lTown_goods_E (lNC_now_L h0) j1 lj1)).1 (lThing_is ((lTown_goods_E (lNC_now_L h0) j1 lj1)).2) dX2_soonestOf_8 ?_
  refine lv_astore_n (lv' := [(2, .ref (o + 1 + 11 + j1)), (0, .ref (o + 55)), (1, .int a1)]) hx hb dX2_soonestOf_9 rfl hl (by decide) rfl (fun ls hl => ?_)
  refine lv_aload_n hx hb dX2_soonestOf_10 rfl (lv_at hl 1 rfl) ?_
  refine gr_X2_17 cx hw (lNC_mind_L h0) (lNC_m_soonestAt h0) (lNC_m_soonestAt_L h0) dX2_soonestOf_11 ?_
  refine nc_ldc (v := 1000000) cx kc_X2_79 dX2_soonestOf_14 ?_
  obtain ⟨q2, hq2, hf⟩ := nc_bi hf
  refine nc_callSv cx hw lk_X2_80 (c_J7_fill_53178 l (lNC_m_soonestAt_L h0) mi 1000000 q2 hq2) rfl hl.1 rfl (Nat.le_of_ble_eq_true rfl) ⟨rfl, rfl, Nat.le_of_ble_eq_true rfl, Nat.le_of_ble_eq_true rfl⟩ dX2_soonestOf_16 (fun H locs hw => ?_)
  refine lv_aload_n hx hb dX2_soonestOf_19 rfl (lv_at hl 1 rfl) ?_
  refine gr_X2_17 cx hw (lNC_mind_L h0) (lNC_m_soonestAt h0) (lNC_m_soonestAt_L h0) dX2_soonestOf_20 ?_
  refine lv_aload_n hx hb dX2_soonestOf_23 rfl (lv_at hl 0 rfl) ?_
  refine gi_X2_86 cx hw (lThing_is ((lTown_goods_E (lNC_now_L h0) j1 lj1)).2) dX2_soonestOf_24 ?_
  refine lv_iconst (v := 0) hx hb dX2_soonestOf_27 (by decide) ?_
  obtain ⟨j3, ej3, ij3, lj3, hf⟩ := nc_ix hf
  refine nc_ist cx hw (lNC_m_soonestAt_L h0) ij3 ej3 dX2_soonestOf_28 (fun mi4 H locs emi4 hw => ?_)
  have hf := nc_let_at hf emi4
  refine lv_iconst (v := 1) hx hb dX2_soonestOf_29 (by decide) ?_
  refine lv_istore_n (lv' := [(3, .int 1), (2, .ref (o + 1 + 11 + j1)), (0, .ref (o + 55)), (1, .int a1)]) hx hb dX2_soonestOf_30 rfl hl (by decide) rfl (fun ls hl => ?_)
  refine lv_iconst (v := 0) hx hb dX2_soonestOf_31 (by decide) ?_
  refine lv_istore (lv' := [(4, .int 0), (3, .int 1), (2, .ref (o + 1 + 11 + j1)), (0, .ref (o + 55)), (1, .int a1)]) hx hb dX2_soonestOf_32 hl (by decide) rfl (fun ls hl => ?_)
  obtain ⟨k5, ek5, hf⟩ := nc_jn_of hf
  have hk5 : ∀ (mi6 : nc_Mem), k5 mi6 = some res → ∀ (H : Heap) (locs : List Loc) (ls : Array Slot), nc_W G K mi6 H locs → lv_has ls 6 [(0, .ref (o + 55)), (2, .ref (o + 1 + 11 + j1))] → W p l e rm_X2_soonestOf s m args below meth c H locs 0 0 Q (F0 m 86 ls []) := by
    intro mi6 hf H locs ls hw hl
    have hf := ((congrFun ek5 mi6)).symm.trans hf
    refine lv_aload_n hx hb dX2_soonestOf_86 rfl (lv_at hl 0 rfl) ?_
    refine gr_X2_17 cx hw (lNC_mind_L h0) (lNC_m_soonestAt h0) (lNC_m_soonestAt_L h0) dX2_soonestOf_87 ?_
    refine lv_aload_n hx hb dX2_soonestOf_90 rfl (lv_at hl 1 rfl) ?_
    refine gi_X2_92 cx hw (lThing_is ((lTown_goods_E (lNC_now_L h0) j1 lj1)).2) dX2_soonestOf_91 ?_
    obtain ⟨j7, ej7, ij7, lj7, hf⟩ := nc_ix hf
    refine nc_ild cx hw (lNC_m_soonestAt_L h0) ij7 ej7 dX2_soonestOf_94 ?_
    refine nc_ldc (v := 1000000) cx kc_X2_79 dX2_soonestOf_95 ?_
    refine lv_icmp_lt (tgt := 105) hx hb dX2_soonestOf_97 (by decide) (fun c8 => ?_) (fun c8 => ?_)
    · have hf := nc_ifp hf c8
      refine lv_aload_n hx hb dX2_soonestOf_105 rfl (lv_at hl 0 rfl) ?_
      refine gr_X2_17 cx hw (lNC_mind_L h0) (lNC_m_soonestAt h0) (lNC_m_soonestAt_L h0) dX2_soonestOf_106 ?_
      refine lv_aload_n hx hb dX2_soonestOf_109 rfl (lv_at hl 1 rfl) ?_
      refine gi_X2_92 cx hw (lThing_is ((lTown_goods_E (lNC_now_L h0) j1 lj1)).2) dX2_soonestOf_110 ?_
      refine nc_ild cx hw (lNC_m_soonestAt_L h0) ij7 ej7 dX2_soonestOf_113 ?_
      exact nc_rpm hret hf rfl hw dX2_soonestOf_114
    · have hf := nc_ifn hf c8
      refine lv_bipush (v := (-9)) hx hb dX2_soonestOf_100 (by decide) ?_
      refine lv_goto (tgt := 114) hx hb dX2_soonestOf_102 (by decide) ?_
      exact nc_rpm hret hf rfl hw dX2_soonestOf_114
  refine nc_loop_w (P := fun κ : Int32 → Int32 → nc_Mem → Option (nc_Mem × Int32) => ∀ (x9 : Int32) (x10 : Int32) (mi11 : nc_Mem), κ x9 x10 mi11 = some res → ∀ (H : Heap) (locs : List Loc) (ls : Array Slot), nc_W G K mi11 H locs → lv_has ls 6 [(0, .ref (o + 55)), (1, .int a1), (2, .ref (o + 1 + 11 + j1)), (3, .int x9), (4, .int x10)] → W p l e rm_X2_soonestOf s m args below meth c H locs 0 0 Q (F0 m 34 ls [])) ?_ ?_ 200 _ _ _ hf _ _ _ hw (lv_sub hl [3, 4, 2, 1, 0] rfl)
  · intro x9 x10 mi11 hf; exact absurd hf (by intro q; cases q)
  · intro rc12 ihrc12 x9 x10 mi11 hf H locs ls hw hl
    unfold B_X2_soonestOf_34 at hf
    refine lv_iload hx hb dX2_soonestOf_34 (lv_at hl 4 rfl) ?_
    refine lv_bipush (v := 7) hx hb dX2_soonestOf_36 (by decide) ?_
    refine lv_icmp_gt (tgt := 86) hx hb dX2_soonestOf_38 (by decide) (fun c13 => ?_) (fun c13 => ?_)
    · have hf := nc_ifp hf c13
      exact hk5 _ hf _ _ _ hw (lv_sub hl [0, 2] rfl)
    · have hf := nc_ifn hf c13
      refine lv_iload_n hx hb dX2_soonestOf_41 rfl (lv_at hl 3 rfl) ?_
      refine lv_if_eq (tgt := 86) hx hb dX2_soonestOf_42 (by decide) (fun c14 => ?_) (fun c14 => ?_)
      · have hf := nc_ifp hf c14
        exact hk5 _ hf _ _ _ hw (lv_sub hl [0, 2] rfl)
      · have hf := nc_ifn hf c14
        refine lv_iconst (v := 0) hx hb dX2_soonestOf_45 (by decide) ?_
        refine lv_istore_n (lv' := [(3, .int 0), (0, .ref (o + 55)), (1, .int a1), (2, .ref (o + 1 + 11 + j1)), (4, .int x10)]) hx hb dX2_soonestOf_46 rfl hl (by decide) rfl (fun ls hl => ?_)
        refine lv_iconst (v := 0) hx hb dX2_soonestOf_47 (by decide) ?_
        refine lv_istore (lv' := [(5, .int 0), (3, .int 0), (0, .ref (o + 55)), (1, .int a1), (2, .ref (o + 1 + 11 + j1)), (4, .int x10)]) hx hb dX2_soonestOf_48 hl (by decide) rfl (fun ls hl => ?_)
        refine nc_loop_w (P := fun κ : Int32 → Int32 → nc_Mem → Option (nc_Mem × Int32) => ∀ (x15 : Int32) (x16 : Int32) (mi17 : nc_Mem), κ x15 x16 mi17 = some res → ∀ (H : Heap) (locs : List Loc) (ls : Array Slot), nc_W G K mi17 H locs → lv_has ls 6 [(0, .ref (o + 55)), (1, .int a1), (2, .ref (o + 1 + 11 + j1)), (3, .int x15), (4, .int x10), (5, .int x16)] → W p l e rm_X2_soonestOf s m args below meth c H locs 0 0 Q (F0 m 50 ls [])) ?_ ?_ 200 _ _ _ hf _ _ _ hw (lv_sub hl [2, 3, 4, 1, 5, 0] rfl)
        · intro x15 x16 mi17 hf; exact absurd hf (by intro q; cases q)
        · intro rc18 ihrc18 x15 x16 mi17 hf H locs ls hw hl
          unfold B_X2_soonestOf_50 at hf
          refine lv_iload hx hb dX2_soonestOf_50 (lv_at hl 5 rfl) ?_
          refine lv_aload_n hx hb dX2_soonestOf_52 rfl (lv_at hl 0 rfl) ?_
          refine gr_X2_24 cx hw (lNC_mind_L h0) (lNC_m_town h0) (lTown_is (lNC_now_L h0)) dX2_soonestOf_53 ?_
          refine gi_X2_41 cx hw (lTown_is (lNC_now_L h0)) dX2_soonestOf_56 ?_
          refine lv_icmp_ge (tgt := 80) hx hb dX2_soonestOf_59 (by decide) (fun c19 => ?_) (fun c19 => ?_)
          · have hf := nc_ifp hf c19
            obtain ⟨x20, ex20⟩ : ∃ y : Int32, y = x10 + 1 := ⟨_, rfl⟩
            have hf := nc_let_at hf ex20
            refine lv_iinc (v := x20) (lv' := [(4, .int x20), (0, .ref (o + 55)), (1, .int a1), (2, .ref (o + 1 + 11 + j1)), (3, .int x15), (5, .int x16)]) hx hb dX2_soonestOf_80 hl (k := 4) rfl (by rw [ex20]; rfl) (by decide) rfl (fun ls hl => ?_)
            refine lv_goto (tgt := 34) hx hb dX2_soonestOf_83 (by decide) ?_
            exact ihrc12 _ _ _ hf _ _ _ hw (lv_sub hl [1, 2, 3, 4, 0] rfl)
          · have hf := nc_ifn hf c19
            refine lv_aload_n hx hb dX2_soonestOf_62 rfl (lv_at hl 0 rfl) ?_
            refine lv_iload hx hb dX2_soonestOf_63 (lv_at hl 5 rfl) ?_
            refine lv_iload_n hx hb dX2_soonestOf_65 rfl (lv_at hl 1 rfl) ?_
            obtain ⟨q21, hq21, hf⟩ := nc_bi hf
            refine nc_callVi cx hw lk_X2_89 (c_X2_carryAlong l h0 mi17 x16 a1 q21 hq21) (ci := 2) rfl (lNC_mind_L h0) rfl hl.1 rfl (Nat.le_of_ble_eq_true rfl) ⟨rfl, rfl, Nat.le_of_ble_eq_true rfl, Nat.le_of_ble_eq_true rfl⟩ dX2_soonestOf_66 (fun H locs hw => ?_)
            refine lv_if_eq (tgt := 74) hx hb dX2_soonestOf_69 (by decide) (fun c22 => ?_) (fun c22 => ?_)
            · have hf := nc_ifp hf c22
              obtain ⟨x23, ex23⟩ : ∃ y : Int32, y = x16 + 1 := ⟨_, rfl⟩
              have hf := nc_let_at hf ex23
              refine lv_iinc (v := x23) (lv' := [(5, .int x23), (0, .ref (o + 55)), (1, .int a1), (2, .ref (o + 1 + 11 + j1)), (3, .int x15), (4, .int x10)]) hx hb dX2_soonestOf_74 hl (k := 5) rfl (by rw [ex23]; rfl) (by decide) rfl (fun ls hl => ?_)
              refine lv_goto (tgt := 50) hx hb dX2_soonestOf_77 (by decide) ?_
              exact ihrc18 _ _ _ hf _ _ _ hw (lv_sub hl [1, 2, 3, 4, 5, 0] rfl)
            · have hf := nc_ifn hf c22
              refine lv_iconst (v := 1) hx hb dX2_soonestOf_72 (by decide) ?_
              refine lv_istore_n (lv' := [(3, .int 1), (0, .ref (o + 55)), (1, .int a1), (2, .ref (o + 1 + 11 + j1)), (4, .int x10), (5, .int x16)]) hx hb dX2_soonestOf_73 rfl hl (by decide) rfl (fun ls hl => ?_)
              obtain ⟨x24, ex24⟩ : ∃ y : Int32, y = x16 + 1 := ⟨_, rfl⟩
              have hf := nc_let_at hf ex24
              refine lv_iinc (v := x24) (lv' := [(5, .int x24), (3, .int 1), (0, .ref (o + 55)), (1, .int a1), (2, .ref (o + 1 + 11 + j1)), (4, .int x10)]) hx hb dX2_soonestOf_74 hl (k := 5) rfl (by rw [ex24]; rfl) (by decide) rfl (fun ls hl => ?_)
              refine lv_goto (tgt := 50) hx hb dX2_soonestOf_77 (by decide) ?_
              exact ihrc18 _ _ _ hf _ _ _ hw (lv_sub hl [2, 3, 4, 1, 5, 0] rfl)
abbrev rm_X7_soonest : Room := { frames := 6, cells := 0, slots := 0, locals := 141 }
set_option maxRecDepth 100000 in
set_option maxHeartbeats 4000000 in
theorem c_X7_soonest (l : Launch) {G : nc_G} {K : nc_K} {o : Nat} (h0 : nc_LNC G K o) (mi : nc_Mem) (a1 : Int32) (res : nc_Mem × Int32) (hf : f_X7_soonest mi o a1 = some res) : nc_M l yX7_soonest cX7_soonest 2 (some .int) rm_X7_soonest 0 0 G K K [.ref o, .int a1] mi res.1 (some (.int res.2)) := by
  refine nc_meet_i (by decide) (Nat.le_of_ble_eq_true rfl) ?_
  intro p e s m args below meth c Q H locs ls cx hret hw hl
  have cx : nc_C p s m args c cX7_soonest 2 RX7 G := cx
  have hl : lv_has ls 2 [(0, .ref o), (1, .int a1)] := hl
  have hx := cx.1
  have hb := cx.2.1
  unfold f_X7_soonest at hf
  refine lv_aload_n hx hb dX7_soonest_0 rfl (lv_at hl 0 rfl) ?_
  refine gr_X7_10 cx hw (lNC_is h0) (lNC_now h0) (lTown_is (lNC_now_L h0)) dX7_soonest_1 ?_
  refine lv_iload_n hx hb dX7_soonest_4 rfl (lv_at hl 1 rfl) ?_
  refine nc_callVi cx hw lk_X7_101 (c_X5_isThing l (lNC_now_L h0) mi a1 _ rfl) (ci := 5) rfl (lTown_is (lNC_now_L h0)) rfl hl.1 rfl (Nat.le_of_ble_eq_true rfl) ⟨rfl, rfl, Nat.le_of_ble_eq_true rfl, Nat.le_of_ble_eq_true rfl⟩ dX7_soonest_5 (fun H locs hw => ?_)
  refine lv_if_ne (tgt := 17) hx hb dX7_soonest_8 (by decide) (fun c1 => ?_) (fun c1 => ?_)
  · have hf := nc_ifn hf c1
    refine lv_aload_n hx hb dX7_soonest_17 rfl (lv_at hl 0 rfl) ?_
    refine gr_X7_34 cx hw (lNC_is h0) (lNC_mind h0) (lNC_mind_L h0) dX7_soonest_18 ?_
    obtain ⟨q2, hq2, hf⟩ := nc_bi hf
    refine nc_callVv cx hw lk_X7_155 (c_X2_recall l h0 mi  q2 hq2) (ci := 2) rfl (lNC_mind_L h0) rfl hl.1 rfl (Nat.le_of_ble_eq_true rfl) ⟨rfl, rfl, Nat.le_of_ble_eq_true rfl, Nat.le_of_ble_eq_true rfl⟩ dX7_soonest_21 (fun H locs hw => ?_)
    refine lv_aload_n hx hb dX7_soonest_24 rfl (lv_at hl 0 rfl) ?_
    refine gr_X7_34 cx hw (lNC_is h0) (lNC_mind h0) (lNC_mind_L h0) dX7_soonest_25 ?_
    refine lv_iload_n hx hb dX7_soonest_28 rfl (lv_at hl 1 rfl) ?_
    obtain ⟨q3, hq3, hf⟩ := nc_bi hf
    refine nc_callVi cx hw lk_X7_158 (c_X2_soonestOf l h0 q2 a1 q3 hq3) (ci := 2) rfl (lNC_mind_L h0) rfl hl.1 rfl (Nat.le_of_ble_eq_true rfl) ⟨rfl, rfl, Nat.le_of_ble_eq_true rfl, Nat.le_of_ble_eq_true rfl⟩ dX7_soonest_29 (fun H locs hw => ?_)
    exact nc_rpm hret hf rfl hw dX7_soonest_32
  · have hf := nc_ifp hf c1
    refine lv_aload_n hx hb dX7_soonest_11 rfl (lv_at hl 0 rfl) ?_
    refine lv_iconst (v := (-1)) hx hb dX7_soonest_12 (by decide) ?_
    obtain ⟨q4, hq4, hf⟩ := nc_bi hf
    refine nc_callVi cx hw lk_X7_60 (c_X7_refuse l h0 mi (-1) q4 hq4) (ci := 7) rfl (lNC_is h0) rfl hl.1 rfl (Nat.le_of_ble_eq_true rfl) ⟨rfl, rfl, Nat.le_of_ble_eq_true rfl, Nat.le_of_ble_eq_true rfl⟩ dX7_soonest_13 (fun H locs hw => ?_)
    exact nc_rpm hret hf rfl hw dX7_soonest_16
abbrev rm_X6_indexAt : Room := { frames := 0, cells := 0, slots := 0, locals := 0 }
set_option maxRecDepth 100000 in
set_option maxHeartbeats 4000000 in
theorem c_X6_indexAt (l : Launch) {G : nc_G} {K : nc_K} {o : Nat} (h0 : nc_LWay G K o) (mi : nc_Mem) (a1 : Int32) (res : Int32) (hf : f_X6_indexAt mi o a1 = some res) : nc_M l yX6_indexAt cX6_indexAt 3 (some .int) rm_X6_indexAt 0 0 G K K [.ref o, .int a1] mi mi (some (.int res)) := by
  refine nc_meet_i (by decide) (Nat.le_of_ble_eq_true rfl) ?_
  intro p e s m args below meth c Q H locs ls cx hret hw hl
  have cx : nc_C p s m args c cX6_indexAt 3 RX6 G := cx
  have hl : lv_has ls 3 [(0, .ref o), (1, .int a1)] := hl
  have hx := cx.1
  have hb := cx.2.1
  unfold f_X6_indexAt at hf
  refine lv_iconst (v := 0) hx hb dX6_indexAt_0 (by decide) ?_
  refine lv_istore_n (lv' := [(2, .int 0), (0, .ref o), (1, .int a1)]) hx hb dX6_indexAt_1 rfl hl (by decide) rfl (fun ls hl => ?_)
  refine nc_loop_w (P := fun κ : Int32 → Option (Int32) => ∀ (x1 : Int32), κ x1 = some res → ∀ (H : Heap) (locs : List Loc) (ls : Array Slot), nc_W G K mi H locs → lv_has ls 3 [(0, .ref o), (1, .int a1), (2, .int x1)] → W p l e rm_X6_indexAt s m args below meth c H locs 0 0 Q (F0 m 2 ls [])) ?_ ?_ 200 _ hf _ _ _ hw (lv_sub hl [1, 2, 0] rfl)
  · intro x1 hf; exact absurd hf (by intro q; cases q)
  · intro rc2 ihrc2 x1 hf H locs ls hw hl
    unfold B_X6_indexAt_2 at hf
    refine lv_iload_n hx hb dX6_indexAt_2 rfl (lv_at hl 2 rfl) ?_
    refine lv_aload_n hx hb dX6_indexAt_3 rfl (lv_at hl 0 rfl) ?_
    refine gi_X6_18 cx hw (lWay_is h0) dX6_indexAt_4 ?_
    refine lv_icmp_ge (tgt := 28) hx hb dX6_indexAt_7 (by decide) (fun c3 => ?_) (fun c3 => ?_)
    · have hf := nc_ifp hf c3
      refine lv_iconst (v := (-1)) hx hb dX6_indexAt_28 (by decide) ?_
      exact nc_rpp hret hf rfl hw dX6_indexAt_29
    · have hf := nc_ifn hf c3
      refine lv_aload_n hx hb dX6_indexAt_10 rfl (lv_at hl 0 rfl) ?_
      refine gr_X6_9 cx hw (lWay_is h0) (lWay_place h0) (lWay_place_L h0) dX6_indexAt_11 ?_
      refine lv_iload_n hx hb dX6_indexAt_14 rfl (lv_at hl 2 rfl) ?_
      obtain ⟨j4, ej4, ij4, lj4, hf⟩ := nc_ix hf
      refine nc_ild cx hw (lWay_place_L h0) ij4 ej4 dX6_indexAt_15 ?_
      refine lv_iload_n hx hb dX6_indexAt_16 rfl (lv_at hl 1 rfl) ?_
      refine lv_icmp_ne (tgt := 22) hx hb dX6_indexAt_17 (by decide) (fun c5 => ?_) (fun c5 => ?_)
      · have hf := nc_ifn hf c5
        obtain ⟨x6, ex6⟩ : ∃ y : Int32, y = x1 + 1 := ⟨_, rfl⟩
        have hf := nc_let_at hf ex6
        refine lv_iinc (v := x6) (lv' := [(2, .int x6), (0, .ref o), (1, .int a1)]) hx hb dX6_indexAt_22 hl (k := 2) rfl (by rw [ex6]; rfl) (by decide) rfl (fun ls hl => ?_)
        refine lv_goto (tgt := 2) hx hb dX6_indexAt_25 (by decide) ?_
        exact ihrc2 _ hf _ _ _ hw (lv_sub hl [1, 2, 0] rfl)
      · have hf := nc_ifp hf c5
        refine lv_iload_n hx hb dX6_indexAt_20 rfl (lv_at hl 2 rfl) ?_
        exact nc_rpp hret hf rfl hw dX6_indexAt_21
abbrev rm_X2_lastStart : Room := { frames := 2, cells := 0, slots := 0, locals := 50 }
set_option maxRecDepth 100000 in
set_option maxHeartbeats 4000000 in
theorem c_X2_lastStart (l : Launch) {G : nc_G} {K : nc_K} {o : Nat} (h0 : nc_LNC G K o) (mi : nc_Mem) (a1 a2 a3 : Int32) (res : Int32) (hf : f_X2_lastStart mi o a1 a2 a3 = some res) : nc_M l yX2_lastStart cX2_lastStart 6 (some .int) rm_X2_lastStart 0 0 G K K [.ref (o + 55), .int a1, .int a2, .int a3] mi mi (some (.int res)) := by
  refine nc_meet_i (by decide) (Nat.le_of_ble_eq_true rfl) ?_
  intro p e s m args below meth c Q H locs ls cx hret hw hl
  have cx : nc_C p s m args c cX2_lastStart 6 RX2 G := cx
  have hl : lv_has ls 6 [(0, .ref (o + 55)), (1, .int a1), (2, .int a2), (3, .int a3)] := hl
  have hx := cx.1
  have hb := cx.2.1
  unfold f_X2_lastStart at hf
  refine lv_aload_n hx hb dX2_lastStart_0 rfl (lv_at hl 0 rfl) ?_
  refine gr_X2_11 cx hw (lNC_mind_L h0) (lNC_m_ways h0) (lNC_m_ways_L h0) dX2_lastStart_1 ?_
  refine lv_iload_n hx hb dX2_lastStart_4 rfl (lv_at hl 1 rfl) ?_
  obtain ⟨j1, ej1, ij1, lj1, hf⟩ := nc_ix hf
  refine nc_ald cx hw (by decide) (lNC_m_ways_L h0) ij1 ej1 ((lNC_m_ways_E h0 j1 lj1)).1 (lWay_is ((lNC_m_ways_E h0 j1 lj1)).2) dX2_lastStart_5 ?_
  refine lv_astore (lv' := [(4, .ref (o + 59 + 3 * j1)), (0, .ref (o + 55)), (1, .int a1), (2, .int a2), (3, .int a3)]) hx hb dX2_lastStart_6 hl (by decide) rfl (fun ls hl => ?_)
  refine lv_iload_n hx hb dX2_lastStart_8 rfl (lv_at hl 4 rfl) ?_
  refine lv_iconst (v := 1) hx hb dX2_lastStart_9 (by decide) ?_
  refine lv_isub hx hb dX2_lastStart_10 ?_
  refine lv_topi (fun x2 ex2 => ?_)
  have hf := nc_let_at hf ex2
  refine lv_istore (lv' := [(5, .int x2), (4, .ref (o + 59 + 3 * j1)), (0, .ref (o + 55)), (1, .int a1), (2, .int a2), (3, .int a3)]) hx hb dX2_lastStart_11 hl (by decide) rfl (fun ls hl => ?_)
  refine nc_loop_w (P := fun κ : Int32 → Option (Int32) => ∀ (x3 : Int32), κ x3 = some res → ∀ (H : Heap) (locs : List Loc) (ls : Array Slot), nc_W G K mi H locs → lv_has ls 6 [(0, .ref (o + 55)), (1, .int a1), (2, .int a2), (4, .ref (o + 59 + 3 * j1)), (5, .int x3)] → W p l e rm_X2_lastStart s m args below meth c H locs 0 0 Q (F0 m 13 ls [])) ?_ ?_ 200 _ hf _ _ _ hw (lv_sub hl [2, 3, 4, 1, 0] rfl)
  · intro x3 hf; exact absurd hf (by intro q; cases q)
  · intro rc4 ihrc4 x3 hf H locs ls hw hl
    unfold B_X2_lastStart_13 at hf
    refine lv_iload hx hb dX2_lastStart_13 (lv_at hl 4 rfl) ?_
    refine lv_if_lt (tgt := 68) hx hb dX2_lastStart_15 (by decide) (fun c5 => ?_) (fun c5 => ?_)
    · have hf := nc_ifp hf c5
      refine lv_iconst (v := (-1)) hx hb dX2_lastStart_68 (by decide) ?_
      exact nc_rpp hret hf rfl hw dX2_lastStart_69
    · have hf := nc_ifn hf c5
      refine lv_aload_n hx hb dX2_lastStart_18 rfl (lv_at hl 0 rfl) ?_
      refine gr_X2_17 cx hw (lNC_mind_L h0) (lNC_m_soonestAt h0) (lNC_m_soonestAt_L h0) dX2_lastStart_19 ?_
      refine lv_aload hx hb dX2_lastStart_22 (lv_at hl 3 rfl) ?_
      refine gr_X2_96 cx hw (lWay_is ((lNC_m_ways_E h0 j1 lj1)).2) (lWay_place ((lNC_m_ways_E h0 j1 lj1)).2) (lWay_place_L ((lNC_m_ways_E h0 j1 lj1)).2) dX2_lastStart_24 ?_
      refine lv_iload hx hb dX2_lastStart_27 (lv_at hl 4 rfl) ?_
      obtain ⟨j6, ej6, ij6, lj6, hf⟩ := nc_ix hf
      refine nc_ild cx hw (lWay_place_L ((lNC_m_ways_E h0 j1 lj1)).2) ij6 ej6 dX2_lastStart_29 ?_
      obtain ⟨j7, ej7, ij7, lj7, hf⟩ := nc_ix hf
      refine nc_ild cx hw (lNC_m_soonestAt_L h0) ij7 ej7 dX2_lastStart_30 ?_
      refine lv_aload hx hb dX2_lastStart_31 (lv_at hl 3 rfl) ?_
      refine gr_X2_99 cx hw (lWay_is ((lNC_m_ways_E h0 j1 lj1)).2) (lWay_minute ((lNC_m_ways_E h0 j1 lj1)).2) (lWay_minute_L ((lNC_m_ways_E h0 j1 lj1)).2) dX2_lastStart_33 ?_
      refine lv_iload hx hb dX2_lastStart_36 (lv_at hl 4 rfl) ?_
      refine nc_ild cx hw (lWay_minute_L ((lNC_m_ways_E h0 j1 lj1)).2) ij6 ej6 dX2_lastStart_38 ?_
      refine lv_icmp_gt (tgt := 62) hx hb dX2_lastStart_39 (by decide) (fun c8 => ?_) (fun c8 => ?_)
      · have hf := nc_ifp hf c8
        obtain ⟨x9, ex9⟩ : ∃ y : Int32, y = x3 + (-1) := ⟨_, rfl⟩
        have hf := nc_let_at hf ex9
        refine lv_iinc (v := x9) (lv' := [(5, .int x9), (0, .ref (o + 55)), (1, .int a1), (2, .int a2), (4, .ref (o + 59 + 3 * j1))]) hx hb dX2_lastStart_62 hl (k := 4) rfl (by rw [ex9]; rfl) (by decide) rfl (fun ls hl => ?_)
        refine lv_goto (tgt := 13) hx hb dX2_lastStart_65 (by decide) ?_
        exact ihrc4 _ hf _ _ _ hw (lv_sub hl [1, 2, 3, 4, 0] rfl)
      · have hf := nc_ifn hf c8
        refine lv_aload_n hx hb dX2_lastStart_42 rfl (lv_at hl 0 rfl) ?_
        refine lv_iload_n hx hb dX2_lastStart_43 rfl (lv_at hl 1 rfl) ?_
        refine lv_iload_n hx hb dX2_lastStart_44 rfl (lv_at hl 2 rfl) ?_
        refine lv_aload hx hb dX2_lastStart_45 (lv_at hl 3 rfl) ?_
        refine gr_X2_99 cx hw (lWay_is ((lNC_m_ways_E h0 j1 lj1)).2) (lWay_minute ((lNC_m_ways_E h0 j1 lj1)).2) (lWay_minute_L ((lNC_m_ways_E h0 j1 lj1)).2) dX2_lastStart_47 ?_
        refine lv_iload hx hb dX2_lastStart_50 (lv_at hl 4 rfl) ?_
        refine nc_ild cx hw (lWay_minute_L ((lNC_m_ways_E h0 j1 lj1)).2) ij6 ej6 dX2_lastStart_52 ?_
        obtain ⟨q10, hq10, hf⟩ := nc_bi hf
        refine nc_callVi cx hw lk_X2_102 (c_X2_lets l h0 mi a1 a2 (mi (o + 59 + 3 * j1 + 2) j6) q10 hq10) (ci := 2) rfl (lNC_mind_L h0) rfl hl.1 rfl (Nat.le_of_ble_eq_true rfl) ⟨rfl, rfl, Nat.le_of_ble_eq_true rfl, Nat.le_of_ble_eq_true rfl⟩ dX2_lastStart_53 (fun H locs hw => ?_)
        refine lv_if_eq (tgt := 62) hx hb dX2_lastStart_56 (by decide) (fun c11 => ?_) (fun c11 => ?_)
        · have hf := nc_ifp hf c11
          obtain ⟨x12, ex12⟩ : ∃ y : Int32, y = x3 + (-1) := ⟨_, rfl⟩
          have hf := nc_let_at hf ex12
          refine lv_iinc (v := x12) (lv' := [(5, .int x12), (0, .ref (o + 55)), (1, .int a1), (2, .int a2), (4, .ref (o + 59 + 3 * j1))]) hx hb dX2_lastStart_62 hl (k := 4) rfl (by rw [ex12]; rfl) (by decide) rfl (fun ls hl => ?_)
          refine lv_goto (tgt := 13) hx hb dX2_lastStart_65 (by decide) ?_
          exact ihrc4 _ hf _ _ _ hw (lv_sub hl [1, 2, 3, 4, 0] rfl)
        · have hf := nc_ifn hf c11
          refine lv_iload hx hb dX2_lastStart_59 (lv_at hl 4 rfl) ?_
          exact nc_rpp hret hf rfl hw dX2_lastStart_61
abbrev rm_X2_traceStep : Room := { frames := 3, cells := 0, slots := 0, locals := 75 }
set_option maxRecDepth 100000 in
set_option maxHeartbeats 4000000 in
theorem c_X2_traceStep (l : Launch) {G : nc_G} {K : nc_K} {o : Nat} (h0 : nc_LNC G K o) (mi : nc_Mem) (a1 a2 : Int32) (res : nc_Mem × Int32) (hf : f_X2_traceStep mi o a1 a2 = some res) : nc_M l yX2_traceStep cX2_traceStep 6 (some .int) rm_X2_traceStep 0 0 G K K [.ref (o + 55), .int a1, .int a2] mi res.1 (some (.int res.2)) := by
  refine nc_meet_i (by decide) (Nat.le_of_ble_eq_true rfl) ?_
  intro p e s m args below meth c Q H locs ls cx hret hw hl
  have cx : nc_C p s m args c cX2_traceStep 6 RX2 G := cx
  have hl : lv_has ls 6 [(0, .ref (o + 55)), (1, .int a1), (2, .int a2)] := hl
  have hx := cx.1
  have hb := cx.2.1
  unfold f_X2_traceStep at hf
  refine lv_iconst (v := 0) hx hb dX2_traceStep_0 (by decide) ?_
  refine lv_istore_n (lv' := [(3, .int 0), (0, .ref (o + 55)), (1, .int a1), (2, .int a2)]) hx hb dX2_traceStep_1 rfl hl (by decide) rfl (fun ls hl => ?_)
  obtain ⟨k1, ek1, hf⟩ := nc_jn_of hf
  have hk1 : k1 = some res → ∀ (H : Heap) (locs : List Loc) (ls : Array Slot), nc_W G K mi H locs → lv_has ls 6 [(0, .ref (o + 55)), (1, .int a1)] → W p l e rm_X2_traceStep s m args below meth c H locs 0 0 Q (F0 m 120 ls []) := by
    intro hf H locs ls hw hl
    have hf := (ek1).symm.trans hf
    refine lv_aload_n hx hb dX2_traceStep_120 rfl (lv_at hl 0 rfl) ?_
    refine gr_X2_24 cx hw (lNC_mind_L h0) (lNC_m_town h0) (lTown_is (lNC_now_L h0)) dX2_traceStep_121 ?_
    refine gr_X2_75 cx hw (lTown_is (lNC_now_L h0)) (lTown_goods (lNC_now_L h0)) (lTown_goods_L (lNC_now_L h0)) dX2_traceStep_124 ?_
    refine lv_iload_n hx hb dX2_traceStep_127 rfl (lv_at hl 1 rfl) ?_
    obtain ⟨j2, ej2, ij2, lj2, hf⟩ := nc_ix hf
    refine nc_ald cx hw (by decide) (lTown_goods_L (lNC_now_L h0)) ij2 ej2 ((lTown_goods_E (lNC_now_L h0) j2 lj2)).1 (lThing_is ((lTown_goods_E (lNC_now_L h0) j2 lj2)).2) dX2_traceStep_128 ?_
    refine gi_X2_86 cx hw (lThing_is ((lTown_goods_E (lNC_now_L h0) j2 lj2)).2) dX2_traceStep_129 ?_
    exact nc_rpm hret hf rfl hw dX2_traceStep_132
  refine nc_loop_w (P := fun κ : Int32 → Option (nc_Mem × Int32) => ∀ (x3 : Int32), κ x3 = some res → ∀ (H : Heap) (locs : List Loc) (ls : Array Slot), nc_W G K mi H locs → lv_has ls 6 [(0, .ref (o + 55)), (1, .int a1), (2, .int a2), (3, .int x3)] → W p l e rm_X2_traceStep s m args below meth c H locs 0 0 Q (F0 m 2 ls [])) ?_ ?_ 200 _ hf _ _ _ hw (lv_sub hl [1, 2, 3, 0] rfl)
  · intro x3 hf; exact absurd hf (by intro q; cases q)
  · intro rc4 ihrc4 x3 hf H locs ls hw hl
    unfold B_X2_traceStep_2 at hf
    refine lv_iload_n hx hb dX2_traceStep_2 rfl (lv_at hl 3 rfl) ?_
    refine lv_aload_n hx hb dX2_traceStep_3 rfl (lv_at hl 0 rfl) ?_
    refine gr_X2_24 cx hw (lNC_mind_L h0) (lNC_m_town h0) (lTown_is (lNC_now_L h0)) dX2_traceStep_4 ?_
    refine gi_X2_41 cx hw (lTown_is (lNC_now_L h0)) dX2_traceStep_7 ?_
    refine lv_icmp_ge (tgt := 120) hx hb dX2_traceStep_10 (by decide) (fun c5 => ?_) (fun c5 => ?_)
    · have hf := nc_ifp hf c5
      exact hk1 hf _ _ _ hw (lv_sub hl [0, 1] rfl)
    · have hf := nc_ifn hf c5
      refine lv_aload_n hx hb dX2_traceStep_13 rfl (lv_at hl 0 rfl) ?_
      refine gr_X2_11 cx hw (lNC_mind_L h0) (lNC_m_ways h0) (lNC_m_ways_L h0) dX2_traceStep_14 ?_
      refine lv_iload_n hx hb dX2_traceStep_17 rfl (lv_at hl 3 rfl) ?_
      obtain ⟨j6, ej6, ij6, lj6, hf⟩ := nc_ix hf
      refine nc_ald cx hw (by decide) (lNC_m_ways_L h0) ij6 ej6 ((lNC_m_ways_E h0 j6 lj6)).1 (lWay_is ((lNC_m_ways_E h0 j6 lj6)).2) dX2_traceStep_18 ?_
      refine lv_iload_n hx hb dX2_traceStep_19 rfl (lv_at hl 2 rfl) ?_
      obtain ⟨q7, hq7, hf⟩ := nc_bi hf
      refine nc_callVi cx hw lk_X2_113 (c_X6_indexAt l ((lNC_m_ways_E h0 j6 lj6)).2 mi a2 q7 hq7) (ci := 6) rfl (lWay_is ((lNC_m_ways_E h0 j6 lj6)).2) rfl hl.1 rfl (Nat.le_of_ble_eq_true rfl) ⟨rfl, rfl, Nat.le_of_ble_eq_true rfl, Nat.le_of_ble_eq_true rfl⟩ dX2_traceStep_20 (fun H locs hw => ?_)
      refine lv_istore (lv' := [(4, .int q7), (0, .ref (o + 55)), (1, .int a1), (2, .int a2), (3, .int x3)]) hx hb dX2_traceStep_23 hl (by decide) rfl (fun ls hl => ?_)
      refine lv_iload hx hb dX2_traceStep_25 (lv_at hl 0 rfl) ?_
      refine lv_if_lt (tgt := 114) hx hb dX2_traceStep_27 (by decide) (fun c8 => ?_) (fun c8 => ?_)
      · have hf := nc_ifp hf c8
        obtain ⟨x9, ex9⟩ : ∃ y : Int32, y = x3 + 1 := ⟨_, rfl⟩
        have hf := nc_let_at hf ex9
        refine lv_iinc (v := x9) (lv' := [(3, .int x9), (4, .int q7), (0, .ref (o + 55)), (1, .int a1), (2, .int a2)]) hx hb dX2_traceStep_114 hl (k := 4) rfl (by rw [ex9]; rfl) (by decide) rfl (fun ls hl => ?_)
        refine lv_goto (tgt := 2) hx hb dX2_traceStep_117 (by decide) ?_
        exact ihrc4 _ hf _ _ _ hw (lv_sub hl [2, 3, 4, 0] rfl)
      · have hf := nc_ifn hf c8
        refine lv_aload_n hx hb dX2_traceStep_30 rfl (lv_at hl 1 rfl) ?_
        refine gr_X2_11 cx hw (lNC_mind_L h0) (lNC_m_ways h0) (lNC_m_ways_L h0) dX2_traceStep_31 ?_
        refine lv_iload_n hx hb dX2_traceStep_34 rfl (lv_at hl 4 rfl) ?_
        refine nc_ald cx hw (by decide) (lNC_m_ways_L h0) ij6 ej6 ((lNC_m_ways_E h0 j6 lj6)).1 (lWay_is ((lNC_m_ways_E h0 j6 lj6)).2) dX2_traceStep_35 ?_
        refine gr_X2_99 cx hw (lWay_is ((lNC_m_ways_E h0 j6 lj6)).2) (lWay_minute ((lNC_m_ways_E h0 j6 lj6)).2) (lWay_minute_L ((lNC_m_ways_E h0 j6 lj6)).2) dX2_traceStep_36 ?_
        refine lv_iload hx hb dX2_traceStep_39 (lv_at hl 0 rfl) ?_
        obtain ⟨j10, ej10, ij10, lj10, hf⟩ := nc_ix hf
        refine nc_ild cx hw (lWay_minute_L ((lNC_m_ways_E h0 j6 lj6)).2) ij10 ej10 dX2_traceStep_41 ?_
        refine lv_aload_n hx hb dX2_traceStep_42 rfl (lv_at hl 1 rfl) ?_
        refine gr_X2_17 cx hw (lNC_mind_L h0) (lNC_m_soonestAt h0) (lNC_m_soonestAt_L h0) dX2_traceStep_43 ?_
        refine lv_iload_n hx hb dX2_traceStep_46 rfl (lv_at hl 3 rfl) ?_
        obtain ⟨j11, ej11, ij11, lj11, hf⟩ := nc_ix hf
        refine nc_ild cx hw (lNC_m_soonestAt_L h0) ij11 ej11 dX2_traceStep_47 ?_
        refine lv_icmp_eq (tgt := 54) hx hb dX2_traceStep_48 (by decide) (fun c12 => ?_) (fun c12 => ?_)
        · have hf := nc_ifp hf c12
          refine lv_aload_n hx hb dX2_traceStep_54 rfl (lv_at hl 1 rfl) ?_
          refine lv_iload_n hx hb dX2_traceStep_55 rfl (lv_at hl 4 rfl) ?_
          refine lv_iload_n hx hb dX2_traceStep_56 rfl (lv_at hl 2 rfl) ?_
          refine lv_iload hx hb dX2_traceStep_57 (lv_at hl 0 rfl) ?_
          obtain ⟨q13, hq13, hf⟩ := nc_bi hf
          refine nc_callVi cx hw lk_X2_117 (c_X2_lastStart l h0 mi x3 a1 q7 q13 hq13) (ci := 2) rfl (lNC_mind_L h0) rfl hl.1 rfl (Nat.le_of_ble_eq_true rfl) ⟨rfl, rfl, Nat.le_of_ble_eq_true rfl, Nat.le_of_ble_eq_true rfl⟩ dX2_traceStep_59 (fun H locs hw => ?_)
          refine lv_istore (lv' := [(5, .int q13), (4, .int q7), (0, .ref (o + 55)), (1, .int a1), (2, .int a2), (3, .int x3)]) hx hb dX2_traceStep_62 hl (by decide) rfl (fun ls hl => ?_)
          refine lv_iload hx hb dX2_traceStep_64 (lv_at hl 0 rfl) ?_
          refine lv_if_lt (tgt := 114) hx hb dX2_traceStep_66 (by decide) (fun c14 => ?_) (fun c14 => ?_)
          · have hf := nc_ifp hf c14
            obtain ⟨x15, ex15⟩ : ∃ y : Int32, y = x3 + 1 := ⟨_, rfl⟩
            have hf := nc_let_at hf ex15
            refine lv_iinc (v := x15) (lv' := [(3, .int x15), (5, .int q13), (4, .int q7), (0, .ref (o + 55)), (1, .int a1), (2, .int a2)]) hx hb dX2_traceStep_114 hl (k := 5) rfl (by rw [ex15]; rfl) (by decide) rfl (fun ls hl => ?_)
            refine lv_goto (tgt := 2) hx hb dX2_traceStep_117 (by decide) ?_
            exact ihrc4 _ hf _ _ _ hw (lv_sub hl [3, 4, 5, 0] rfl)
          · have hf := nc_ifn hf c14
            refine lv_aload_n hx hb dX2_traceStep_69 rfl (lv_at hl 2 rfl) ?_
            refine gi_X2_106 cx hw (lNC_mind_L h0) dX2_traceStep_70 ?_
            refine lv_aload_n hx hb dX2_traceStep_73 rfl (lv_at hl 2 rfl) ?_
            refine gr_X2_21 cx hw (lNC_mind_L h0) (lNC_m_carrier h0) (lNC_m_carrier_L h0) dX2_traceStep_74 ?_
            refine nc_alen (v := 7) cx hw (lNC_m_carrier_L h0) rfl dX2_traceStep_77 ?_
            refine lv_icmp_ge (tgt := 114) hx hb dX2_traceStep_78 (by decide) (fun c16 => ?_) (fun c16 => ?_)
            · have hf := nc_ifp hf c16
              obtain ⟨x17, ex17⟩ : ∃ y : Int32, y = x3 + 1 := ⟨_, rfl⟩
              have hf := nc_let_at hf ex17
              refine lv_iinc (v := x17) (lv' := [(3, .int x17), (5, .int q13), (4, .int q7), (0, .ref (o + 55)), (1, .int a1), (2, .int a2)]) hx hb dX2_traceStep_114 hl (k := 5) rfl (by rw [ex17]; rfl) (by decide) rfl (fun ls hl => ?_)
              refine lv_goto (tgt := 2) hx hb dX2_traceStep_117 (by decide) ?_
              exact ihrc4 _ hf _ _ _ hw (lv_sub hl [3, 4, 5, 0] rfl)
            · have hf := nc_ifn hf c16
              refine lv_aload_n hx hb dX2_traceStep_81 rfl (lv_at hl 2 rfl) ?_
              refine gr_X2_21 cx hw (lNC_mind_L h0) (lNC_m_carrier h0) (lNC_m_carrier_L h0) dX2_traceStep_82 ?_
              refine lv_aload_n hx hb dX2_traceStep_85 rfl (lv_at hl 2 rfl) ?_
              refine gi_X2_106 cx hw (lNC_mind_L h0) dX2_traceStep_86 ?_
              refine lv_iload_n hx hb dX2_traceStep_89 rfl (lv_at hl 5 rfl) ?_
              obtain ⟨j18, ej18, ij18, lj18, hf⟩ := nc_ix hf
              refine nc_ist cx hw (lNC_m_carrier_L h0) ij18 ej18 dX2_traceStep_90 (fun mi19 H locs emi19 hw => ?_)
              have hf := nc_let_at hf emi19
              refine lv_aload_n hx hb dX2_traceStep_91 rfl (lv_at hl 2 rfl) ?_
              refine lv_dup hx hb dX2_traceStep_92 rfl ?_
              refine gi_X2_106 cx hw (lNC_mind_L h0) dX2_traceStep_93 ?_
              refine lv_iconst (v := 1) hx hb dX2_traceStep_96 (by decide) ?_
              refine lv_iadd hx hb dX2_traceStep_97 ?_
              refine pi_X2_106 cx hw (lNC_mind_L h0) dX2_traceStep_98 (fun mi20 H locs emi20 hw => ?_)
              have hf := nc_let_at hf emi20
              refine lv_aload_n hx hb dX2_traceStep_101 rfl (lv_at hl 2 rfl) ?_
              refine gr_X2_11 cx hw (lNC_mind_L h0) (lNC_m_ways h0) (lNC_m_ways_L h0) dX2_traceStep_102 ?_
              refine lv_iload_n hx hb dX2_traceStep_105 rfl (lv_at hl 5 rfl) ?_
              refine nc_ald cx hw (by decide) (lNC_m_ways_L h0) ij6 ej6 ((lNC_m_ways_E h0 j6 lj6)).1 (lWay_is ((lNC_m_ways_E h0 j6 lj6)).2) dX2_traceStep_106 ?_
              refine gr_X2_96 cx hw (lWay_is ((lNC_m_ways_E h0 j6 lj6)).2) (lWay_place ((lNC_m_ways_E h0 j6 lj6)).2) (lWay_place_L ((lNC_m_ways_E h0 j6 lj6)).2) dX2_traceStep_107 ?_
              refine lv_iload hx hb dX2_traceStep_110 (lv_at hl 0 rfl) ?_
              obtain ⟨j21, ej21, ij21, lj21, hf⟩ := nc_ix hf
              refine nc_ild cx hw (lWay_place_L ((lNC_m_ways_E h0 j6 lj6)).2) ij21 ej21 dX2_traceStep_112 ?_
              exact nc_rpm hret hf rfl hw dX2_traceStep_113
        · have hf := nc_ifn hf c12
          refine lv_goto (tgt := 114) hx hb dX2_traceStep_51 (by decide) ?_
          obtain ⟨x22, ex22⟩ : ∃ y : Int32, y = x3 + 1 := ⟨_, rfl⟩
          have hf := nc_let_at hf ex22
          refine lv_iinc (v := x22) (lv' := [(3, .int x22), (4, .int q7), (0, .ref (o + 55)), (1, .int a1), (2, .int a2)]) hx hb dX2_traceStep_114 hl (k := 4) rfl (by rw [ex22]; rfl) (by decide) rfl (fun ls hl => ?_)
          refine lv_goto (tgt := 2) hx hb dX2_traceStep_117 (by decide) ?_
          exact ihrc4 _ hf _ _ _ hw (lv_sub hl [2, 3, 4, 0] rfl)
