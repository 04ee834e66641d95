abbrev rm_X8_refuse : Room := { frames := 0, cells := 0, slots := 0, locals := 0 }
set_option maxRecDepth 100000 in
set_option maxHeartbeats 4000000 in
theorem c_X8_refuse (l : Launch) {G : nc_G} {K : nc_K} {o : Nat} (h0 : nc_LModel G K o) (mi : nc_Mem) (a1 : Int32) (res : nc_Mem × Int32) (hf : f_X8_refuse mi o a1 = some res) : nc_M l yX8_refuse cX8_refuse 2 (some .int) rm_X8_refuse 0 0 G K K [.ref o, .int a1] mi res.1 (some (.int res.2)) := by
  refine nc_meet_i (by decide) (Nat.le_of_ble_eq_true rfl) ?_
  intro p e s m args below meth c Q H locs ls cx hret hw hl
  have cx : nc_C p s m args c cX8_refuse 2 RX8 G := cx
  have hl : lv_has ls 2 [(0, .ref o), (1, .int a1)] := hl
  have hx := cx.1
  have hb := cx.2.1
  unfold f_X8_refuse at hf
  refine lv_aload_n hx hb dX8_refuse_0 rfl (lv_at hl 0 rfl) ?_
  refine gr_X8_16 cx hw (lModel_is h0) (lModel_refused h0) (lModel_refused_L h0) dX8_refuse_1 ?_
  refine lv_iload_n hx hb dX8_refuse_4 rfl (lv_at hl 1 rfl) ?_
  refine lv_ineg hx hb dX8_refuse_5 ?_
  refine lv_dup2_11 hx hb dX8_refuse_6 rfl rfl ?_
  obtain ⟨j1, ej1, ij1, lj1, hf⟩ := nc_ix hf
  refine nc_ild cx hw (lModel_refused_L h0) ij1 ej1 dX8_refuse_7 ?_
  refine lv_iconst (v := 1) hx hb dX8_refuse_8 (by decide) ?_
  refine lv_iadd hx hb dX8_refuse_9 ?_
  refine nc_ist cx hw (lModel_refused_L h0) ij1 ej1 dX8_refuse_10 (fun mi2 H locs emi2 hw => ?_)
  have hf := nc_let_at hf emi2
  refine lv_iload_n hx hb dX8_refuse_11 rfl (lv_at hl 1 rfl) ?_
  exact nc_rpm hret hf rfl hw dX8_refuse_12
abbrev rm_X8_in : Room := { frames := 0, cells := 0, slots := 0, locals := 0 }
set_option maxRecDepth 100000 in
set_option maxHeartbeats 4000000 in
theorem c_X8_in (l : Launch) {G : nc_G} {K : nc_K}   (mi : nc_Mem) (a0 a1 a2 : Int32) (res : Int32) (hf : f_X8_in mi a0 a1 a2 = res) : nc_M l yX8_in cX8_in 3 (some .boolean) rm_X8_in 0 0 G K K [.int a0, .int a1, .int a2] mi mi (some (.int res)) := by
  refine nc_meet_i (by decide) (Nat.le_of_ble_eq_true rfl) ?_
  intro p e s m args below meth c Q H locs ls cx hret hw hl
  have cx : nc_C p s m args c cX8_in 3 RX8 G := cx
  have hl : lv_has ls 3 [(0, .int a0), (1, .int a1), (2, .int a2)] := hl
  have hx := cx.1
  have hb := cx.2.1
  unfold f_X8_in at hf
  refine lv_iload_n hx hb dX8_in_0 rfl (lv_at hl 0 rfl) ?_
  refine lv_iload_n hx hb dX8_in_1 rfl (lv_at hl 1 rfl) ?_
  refine lv_icmp_lt (tgt := 14) hx hb dX8_in_2 (by decide) (fun c1 => ?_) (fun c1 => ?_)
  · have hf := nc_ifp hf c1
    refine lv_iconst (v := 0) hx hb dX8_in_14 (by decide) ?_
    exact nc_rtp hret hf rfl hw dX8_in_15
  · have hf := nc_ifn hf c1
    refine lv_iload_n hx hb dX8_in_5 rfl (lv_at hl 0 rfl) ?_
    refine lv_iload_n hx hb dX8_in_6 rfl (lv_at hl 2 rfl) ?_
    refine lv_icmp_gt (tgt := 14) hx hb dX8_in_7 (by decide) (fun c2 => ?_) (fun c2 => ?_)
    · have hf := nc_ifp hf c2
      refine lv_iconst (v := 0) hx hb dX8_in_14 (by decide) ?_
      exact nc_rtp hret hf rfl hw dX8_in_15
    · have hf := nc_ifn hf c2
      refine lv_iconst (v := 1) hx hb dX8_in_10 (by decide) ?_
      refine lv_goto (tgt := 15) hx hb dX8_in_11 (by decide) ?_
      exact nc_rtp hret hf rfl hw dX8_in_15
abbrev rm_X8_isPlace : Room := { frames := 1, cells := 0, slots := 0, locals := 22 }
set_option maxRecDepth 100000 in
set_option maxHeartbeats 4000000 in
theorem c_X8_isPlace (l : Launch) {G : nc_G} {K : nc_K} {o : Nat} (h0 : nc_LModel G K o) (mi : nc_Mem) (a1 : Int32) (res : Int32) (hf : f_X8_isPlace mi o a1 = some res) : nc_M l yX8_isPlace cX8_isPlace 2 (some .boolean) rm_X8_isPlace 0 0 G K K [.ref o, .int a1] mi mi (some (.int res)) := by
  refine nc_meet_i (by decide) (Nat.le_of_ble_eq_true rfl) ?_
  intro p e s m args below meth c Q H locs ls cx hret hw hl
  have cx : nc_C p s m args c cX8_isPlace 2 RX8 G := cx
  have hl : lv_has ls 2 [(0, .ref o), (1, .int a1)] := hl
  have hx := cx.1
  have hb := cx.2.1
  unfold f_X8_isPlace at hf
  refine lv_iload_n hx hb dX8_isPlace_0 rfl (lv_at hl 1 rfl) ?_
  refine lv_iconst (v := 0) hx hb dX8_isPlace_1 (by decide) ?_
  refine lv_aload_n hx hb dX8_isPlace_2 rfl (lv_at hl 0 rfl) ?_
  refine gi_X8_19 cx hw (lModel_is h0) dX8_isPlace_3 ?_
  refine lv_iconst (v := 1) hx hb dX8_isPlace_6 (by decide) ?_
  refine lv_isub hx hb dX8_isPlace_7 ?_
  refine nc_callSi cx hw lk_X8_61 (c_X8_in l  mi a1 0 ((mi o 5) - 1) _ rfl) rfl hl.1 rfl (Nat.le_of_ble_eq_true rfl) ⟨rfl, rfl, Nat.le_of_ble_eq_true rfl, Nat.le_of_ble_eq_true rfl⟩ dX8_isPlace_8 (fun H locs hw => ?_)
  obtain ⟨hz, hf⟩ := nc_zb_of hf
  exact nc_rpp hret hf hz hw dX8_isPlace_11
abbrev rm_X8_isPerson : Room := { frames := 1, cells := 0, slots := 0, locals := 22 }
set_option maxRecDepth 100000 in
set_option maxHeartbeats 4000000 in
theorem c_X8_isPerson (l : Launch) {G : nc_G} {K : nc_K} {o : Nat} (h0 : nc_LModel G K o) (mi : nc_Mem) (a1 : Int32) (res : Int32) (hf : f_X8_isPerson mi o a1 = some res) : nc_M l yX8_isPerson cX8_isPerson 2 (some .boolean) rm_X8_isPerson 0 0 G K K [.ref o, .int a1] mi mi (some (.int res)) := by
  refine nc_meet_i (by decide) (Nat.le_of_ble_eq_true rfl) ?_
  intro p e s m args below meth c Q H locs ls cx hret hw hl
  have cx : nc_C p s m args c cX8_isPerson 2 RX8 G := cx
  have hl : lv_has ls 2 [(0, .ref o), (1, .int a1)] := hl
  have hx := cx.1
  have hb := cx.2.1
  unfold f_X8_isPerson at hf
  refine lv_iload_n hx hb dX8_isPerson_0 rfl (lv_at hl 1 rfl) ?_
  refine lv_iconst (v := 0) hx hb dX8_isPerson_1 (by decide) ?_
  refine lv_aload_n hx hb dX8_isPerson_2 rfl (lv_at hl 0 rfl) ?_
  refine gi_X8_65 cx hw (lModel_is h0) dX8_isPerson_3 ?_
  refine lv_iconst (v := 1) hx hb dX8_isPerson_6 (by decide) ?_
  refine lv_isub hx hb dX8_isPerson_7 ?_
  refine nc_callSi cx hw lk_X8_61 (c_X8_in l  mi a1 0 ((mi o 7) - 1) _ rfl) rfl hl.1 rfl (Nat.le_of_ble_eq_true rfl) ⟨rfl, rfl, Nat.le_of_ble_eq_true rfl, Nat.le_of_ble_eq_true rfl⟩ dX8_isPerson_8 (fun H locs hw => ?_)
  obtain ⟨hz, hf⟩ := nc_zb_of hf
  exact nc_rpp hret hf hz hw dX8_isPerson_11
abbrev rm_X8_isThing : Room := { frames := 1, cells := 0, slots := 0, locals := 22 }
set_option maxRecDepth 100000 in
set_option maxHeartbeats 4000000 in
theorem c_X8_isThing (l : Launch) {G : nc_G} {K : nc_K} {o : Nat} (h0 : nc_LModel G K o) (mi : nc_Mem) (a1 : Int32) (res : Int32) (hf : f_X8_isThing mi o a1 = some res) : nc_M l yX8_isThing cX8_isThing 2 (some .boolean) rm_X8_isThing 0 0 G K K [.ref o, .int a1] mi mi (some (.int res)) := by
  refine nc_meet_i (by decide) (Nat.le_of_ble_eq_true rfl) ?_
  intro p e s m args below meth c Q H locs ls cx hret hw hl
  have cx : nc_C p s m args c cX8_isThing 2 RX8 G := cx
  have hl : lv_has ls 2 [(0, .ref o), (1, .int a1)] := hl
  have hx := cx.1
  have hb := cx.2.1
  unfold f_X8_isThing at hf
  refine lv_iload_n hx hb dX8_isThing_0 rfl (lv_at hl 1 rfl) ?_
  refine lv_iconst (v := 0) hx hb dX8_isThing_1 (by decide) ?_
  refine lv_aload_n hx hb dX8_isThing_2 rfl (lv_at hl 0 rfl) ?_
  refine gi_X8_68 cx hw (lModel_is h0) dX8_isThing_3 ?_
  refine lv_iconst (v := 1) hx hb dX8_isThing_6 (by decide) ?_
  refine lv_isub hx hb dX8_isThing_7 ?_
  refine nc_callSi cx hw lk_X8_61 (c_X8_in l  mi a1 0 ((mi o 9) - 1) _ rfl) rfl hl.1 rfl (Nat.le_of_ble_eq_true rfl) ⟨rfl, rfl, Nat.le_of_ble_eq_true rfl, Nat.le_of_ble_eq_true rfl⟩ dX8_isThing_8 (fun H locs hw => ?_)
  obtain ⟨hz, hf⟩ := nc_zb_of hf
  exact nc_rpp hret hf hz hw dX8_isThing_11
abbrev rm_X8_letter : Room := { frames := 1, cells := 0, slots := 0, locals := 21 }
set_option maxRecDepth 100000 in
set_option maxHeartbeats 4000000 in
theorem c_X8_letter (l : Launch) {G : nc_G} {K : nc_K} {o : Nat} (h0 : nc_LModel G K o) (mi : nc_Mem) (a1 : Int32) (res : nc_Mem × Int32) (hf : f_X8_letter mi o a1 = some res) : nc_M l yX8_letter cX8_letter 2 (some .int) rm_X8_letter 0 0 G K K [.ref o, .int a1] mi res.1 (some (.int res.2)) := by
  refine nc_meet_i (by decide) (Nat.le_of_ble_eq_true rfl) ?_
  intro p e s m args below meth c Q H locs ls cx hret hw hl
  have cx : nc_C p s m args c cX8_letter 2 RX8 G := cx
  have hl : lv_has ls 2 [(0, .ref o), (1, .int a1)] := hl
  have hx := cx.1
  have hb := cx.2.1
  unfold f_X8_letter at hf
  refine lv_iload_n hx hb dX8_letter_0 rfl (lv_at hl 1 rfl) ?_
  refine lv_if_ge (tgt := 11) hx hb dX8_letter_1 (by decide) (fun c1 => ?_) (fun c1 => ?_)
  · have hf := nc_ifp hf c1
    refine lv_iload_n hx hb dX8_letter_11 rfl (lv_at hl 1 rfl) ?_
    refine lv_sipush (v := 255) hx hb dX8_letter_12 (by decide) ?_
    obtain ⟨k2, ek2, hf⟩ := nc_jn_of hf
    have hk2 : k2 = some res → ∀ (H : Heap) (locs : List Loc) (ls : Array Slot), nc_W G K mi H locs → lv_has ls 2 [(0, .ref o)] → W p l e rm_X8_letter s m args below meth c H locs 0 0 Q (F0 m 27 ls []) := by
      intro hf H locs ls hw hl
      have hf := (ek2).symm.trans hf
      refine lv_aload_n hx hb dX8_letter_27 rfl (lv_at hl 0 rfl) ?_
      refine lv_bipush (v := (-6)) hx hb dX8_letter_28 (by decide) ?_
      obtain ⟨q3, hq3, hf⟩ := nc_bi hf
      refine nc_callVi cx hw lk_X8_71 (c_X8_refuse l h0 mi (-6) q3 hq3) (ci := 8) rfl (lModel_is h0) rfl hl.1 rfl (Nat.le_of_ble_eq_true rfl) ⟨rfl, rfl, Nat.le_of_ble_eq_true rfl, Nat.le_of_ble_eq_true rfl⟩ dX8_letter_30 (fun H locs hw => ?_)
      exact nc_rpm hret hf rfl hw dX8_letter_33
    refine lv_icmp_gt (tgt := 27) hx hb dX8_letter_15 (by decide) (fun c4 => ?_) (fun c4 => ?_)
    · have hf := nc_ifp hf c4
      exact hk2 hf _ _ _ hw (lv_sub hl [0] rfl)
    · have hf := nc_ifn hf c4
      refine lv_aload_n hx hb dX8_letter_18 rfl (lv_at hl 0 rfl) ?_
      refine gi_X8_75 cx hw (lModel_is h0) dX8_letter_19 ?_
      refine lv_bipush (v := 64) hx hb dX8_letter_22 (by decide) ?_
      refine lv_icmp_ne (tgt := 34) hx hb dX8_letter_24 (by decide) (fun c5 => ?_) (fun c5 => ?_)
      · have hf := nc_ifn hf c5
        refine lv_aload_n hx hb dX8_letter_34 rfl (lv_at hl 0 rfl) ?_
        refine gr_X8_9 cx hw (lModel_is h0) (lModel_letters h0) (lModel_letters_L h0) dX8_letter_35 ?_
        refine lv_aload_n hx hb dX8_letter_38 rfl (lv_at hl 0 rfl) ?_
        refine lv_dup hx hb dX8_letter_39 rfl ?_
        refine gi_X8_75 cx hw (lModel_is h0) dX8_letter_40 ?_
        refine lv_dup_x1 hx hb dX8_letter_43 rfl rfl ?_
        refine lv_iconst (v := 1) hx hb dX8_letter_44 (by decide) ?_
        refine lv_iadd hx hb dX8_letter_45 ?_
        refine pi_X8_75 cx hw (lModel_is h0) dX8_letter_46 (fun mi6 H locs emi6 hw => ?_)
        have hf := nc_let_at hf emi6
        refine lv_iload_n hx hb dX8_letter_49 rfl (lv_at hl 1 rfl) ?_
        obtain ⟨j7, ej7, ij7, lj7, hf⟩ := nc_ix hf
        refine nc_ist cx hw (lModel_letters_L h0) ij7 ej7 dX8_letter_50 (fun mi8 H locs emi8 hw => ?_)
        have hf := nc_let_at hf emi8
        refine lv_aload_n hx hb dX8_letter_51 rfl (lv_at hl 0 rfl) ?_
        refine gi_X8_75 cx hw (lModel_is h0) dX8_letter_52 ?_
        exact nc_rpm hret hf rfl hw dX8_letter_55
      · have hf := nc_ifp hf c5
        exact hk2 hf _ _ _ hw (lv_sub hl [0] rfl)
  · have hf := nc_ifn hf c1
    refine lv_aload_n hx hb dX8_letter_4 rfl (lv_at hl 0 rfl) ?_
    refine lv_bipush (v := (-4)) hx hb dX8_letter_5 (by decide) ?_
    obtain ⟨q9, hq9, hf⟩ := nc_bi hf
    refine nc_callVi cx hw lk_X8_71 (c_X8_refuse l h0 mi (-4) q9 hq9) (ci := 8) rfl (lModel_is h0) rfl hl.1 rfl (Nat.le_of_ble_eq_true rfl) ⟨rfl, rfl, Nat.le_of_ble_eq_true rfl, Nat.le_of_ble_eq_true rfl⟩ dX8_letter_7 (fun H locs hw => ?_)
    exact nc_rpm hret hf rfl hw dX8_letter_10
abbrev rm_X8_must : Room := { frames := 0, cells := 0, slots := 0, locals := 0 }
set_option maxRecDepth 100000 in
set_option maxHeartbeats 4000000 in
theorem c_X8_must (l : Launch) {G : nc_G} {K : nc_K} {o : Nat} (h0 : nc_LModel G K o) (mi : nc_Mem) (a1 : Int32) (res : nc_Mem × Int32) (hf : f_X8_must mi o a1 = some res) : nc_M l yX8_must cX8_must 3 (some .boolean) rm_X8_must 0 0 G K K [.ref o, .int a1] mi res.1 (some (.int res.2)) := by
  refine nc_meet_i (by decide) (Nat.le_of_ble_eq_true rfl) ?_
  intro p e s m args below meth c Q H locs ls cx hret hw hl
  have cx : nc_C p s m args c cX8_must 3 RX8 G := cx
  have hl : lv_has ls 3 [(0, .ref o), (1, .int a1)] := hl
  have hx := cx.1
  have hb := cx.2.1
  unfold f_X8_must at hf
  refine lv_aload_n hx hb dX8_must_0 rfl (lv_at hl 0 rfl) ?_
  refine gi_X8_78 cx hw (lModel_is h0) dX8_must_1 ?_
  refine lv_aload_n hx hb dX8_must_4 rfl (lv_at hl 0 rfl) ?_
  refine gi_X8_75 cx hw (lModel_is h0) dX8_must_5 ?_
  obtain ⟨k1, ek1, hf⟩ := nc_jn_of hf
  have hk1 : ∀ (v2 : Int32), k1 v2 = some res → ∀ (H : Heap) (locs : List Loc) (ls : Array Slot), nc_W G K mi H locs → lv_has ls 3 [(0, .ref o)] → W p l e rm_X8_must s m args below meth c H locs 0 0 Q (F0 m 29 ls [.int v2]) := by
    intro v2 hf H locs ls hw hl
    have hf := ((congrFun ek1 v2)).symm.trans hf
    refine lv_istore_n (lv' := [(2, .int v2), (0, .ref o)]) hx hb dX8_must_29 rfl hl (by decide) rfl (fun ls hl => ?_)
    refine lv_aload_n hx hb dX8_must_30 rfl (lv_at hl 1 rfl) ?_
    refine lv_dup hx hb dX8_must_31 rfl ?_
    refine gi_X8_78 cx hw (lModel_is h0) dX8_must_32 ?_
    refine lv_iload_n hx hb dX8_must_35 rfl (lv_at hl 0 rfl) ?_
    obtain ⟨k3, ek3, hf⟩ := nc_jn_of hf
    have hk3 : ∀ (v4 : Int32), k3 v4 = some res → ∀ (H : Heap) (locs : List Loc) (ls : Array Slot), nc_W G K mi H locs → lv_has ls 3 [(2, .int v2)] → W p l e rm_X8_must s m args below meth c H locs 0 0 Q (F0 m 44 ls [.int v4, .int (mi o 14), .ref o]) := by
      intro v4 hf H locs ls hw hl
      have hf := ((congrFun ek3 v4)).symm.trans hf
      refine lv_iadd hx hb dX8_must_44 ?_
      refine pi_X8_78 cx hw (lModel_is h0) dX8_must_45 (fun mi5 H locs emi5 hw => ?_)
      have hf := nc_let_at hf emi5
      refine lv_iload_n hx hb dX8_must_48 rfl (lv_at hl 0 rfl) ?_
      obtain ⟨hz, hf⟩ := nc_zb_of hf
      exact nc_rpm hret hf hz hw dX8_must_49
    refine lv_if_eq (tgt := 43) hx hb dX8_must_36 (by decide) (fun c6 => ?_) (fun c6 => ?_)
    · have hf := nc_ifp hf c6
      refine lv_iconst (v := 0) hx hb dX8_must_43 (by decide) ?_
      exact hk3 _ hf _ _ _ hw (lv_sub hl [0] rfl)
    · have hf := nc_ifn hf c6
      refine lv_iconst (v := 1) hx hb dX8_must_39 (by decide) ?_
      refine lv_goto (tgt := 44) hx hb dX8_must_40 (by decide) ?_
      exact hk3 _ hf _ _ _ hw (lv_sub hl [0] rfl)
  refine lv_icmp_ge (tgt := 28) hx hb dX8_must_8 (by decide) (fun c7 => ?_) (fun c7 => ?_)
  · have hf := nc_ifp hf c7
    refine lv_iconst (v := 0) hx hb dX8_must_28 (by decide) ?_
    exact hk1 _ hf _ _ _ hw (lv_sub hl [0] rfl)
  · have hf := nc_ifn hf c7
    refine lv_aload_n hx hb dX8_must_11 rfl (lv_at hl 0 rfl) ?_
    refine gr_X8_9 cx hw (lModel_is h0) (lModel_letters h0) (lModel_letters_L h0) dX8_must_12 ?_
    refine lv_aload_n hx hb dX8_must_15 rfl (lv_at hl 0 rfl) ?_
    refine gi_X8_78 cx hw (lModel_is h0) dX8_must_16 ?_
    obtain ⟨j8, ej8, ij8, lj8, hf⟩ := nc_ix hf
    refine nc_ild cx hw (lModel_letters_L h0) ij8 ej8 dX8_must_19 ?_
    refine lv_iload_n hx hb dX8_must_20 rfl (lv_at hl 1 rfl) ?_
    refine lv_icmp_ne (tgt := 28) hx hb dX8_must_21 (by decide) (fun c9 => ?_) (fun c9 => ?_)
    · have hf := nc_ifn hf c9
      refine lv_iconst (v := 0) hx hb dX8_must_28 (by decide) ?_
      exact hk1 _ hf _ _ _ hw (lv_sub hl [0] rfl)
    · have hf := nc_ifp hf c9
      refine lv_iconst (v := 1) hx hb dX8_must_24 (by decide) ?_
      refine lv_goto (tgt := 29) hx hb dX8_must_25 (by decide) ?_
      exact hk1 _ hf _ _ _ hw (lv_sub hl [0] rfl)
abbrev rm_X8_isDigit : Room := { frames := 0, cells := 0, slots := 0, locals := 0 }
set_option maxRecDepth 100000 in
set_option maxHeartbeats 4000000 in
theorem c_X8_isDigit (l : Launch) {G : nc_G} {K : nc_K} {o : Nat} (h0 : nc_LModel G K o) (mi : nc_Mem)  (res : Int32) (hf : f_X8_isDigit mi o = some res) : nc_M l yX8_isDigit cX8_isDigit 1 (some .boolean) rm_X8_isDigit 0 0 G K K [.ref o] mi mi (some (.int res)) := by
  refine nc_meet_i (by decide) (Nat.le_of_ble_eq_true rfl) ?_
  intro p e s m args below meth c Q H locs ls cx hret hw hl
  have cx : nc_C p s m args c cX8_isDigit 1 RX8 G := cx
  have hl : lv_has ls 1 [(0, .ref o)] := hl
  have hx := cx.1
  have hb := cx.2.1
  unfold f_X8_isDigit at hf
  refine lv_aload_n hx hb dX8_isDigit_0 rfl (lv_at hl 0 rfl) ?_
  refine gi_X8_78 cx hw (lModel_is h0) dX8_isDigit_1 ?_
  refine lv_aload_n hx hb dX8_isDigit_4 rfl (lv_at hl 0 rfl) ?_
  refine gi_X8_75 cx hw (lModel_is h0) dX8_isDigit_5 ?_
  refine lv_icmp_ge (tgt := 43) hx hb dX8_isDigit_8 (by decide) (fun c1 => ?_) (fun c1 => ?_)
  · have hf := nc_ifp hf c1
    refine lv_iconst (v := 0) hx hb dX8_isDigit_43 (by decide) ?_
    exact nc_rpp hret hf rfl hw dX8_isDigit_44
  · have hf := nc_ifn hf c1
    refine lv_aload_n hx hb dX8_isDigit_11 rfl (lv_at hl 0 rfl) ?_
    refine gr_X8_9 cx hw (lModel_is h0) (lModel_letters h0) (lModel_letters_L h0) dX8_isDigit_12 ?_
    refine lv_aload_n hx hb dX8_isDigit_15 rfl (lv_at hl 0 rfl) ?_
    refine gi_X8_78 cx hw (lModel_is h0) dX8_isDigit_16 ?_
    obtain ⟨j2, ej2, ij2, lj2, hf⟩ := nc_ix hf
    refine nc_ild cx hw (lModel_letters_L h0) ij2 ej2 dX8_isDigit_19 ?_
    refine lv_bipush (v := 48) hx hb dX8_isDigit_20 (by decide) ?_
    refine lv_icmp_lt (tgt := 43) hx hb dX8_isDigit_22 (by decide) (fun c3 => ?_) (fun c3 => ?_)
    · have hf := nc_ifp hf c3
      refine lv_iconst (v := 0) hx hb dX8_isDigit_43 (by decide) ?_
      exact nc_rpp hret hf rfl hw dX8_isDigit_44
    · have hf := nc_ifn hf c3
      refine lv_aload_n hx hb dX8_isDigit_25 rfl (lv_at hl 0 rfl) ?_
      refine gr_X8_9 cx hw (lModel_is h0) (lModel_letters h0) (lModel_letters_L h0) dX8_isDigit_26 ?_
      refine lv_aload_n hx hb dX8_isDigit_29 rfl (lv_at hl 0 rfl) ?_
      refine gi_X8_78 cx hw (lModel_is h0) dX8_isDigit_30 ?_
      refine nc_ild cx hw (lModel_letters_L h0) ij2 ej2 dX8_isDigit_33 ?_
      refine lv_bipush (v := 57) hx hb dX8_isDigit_34 (by decide) ?_
      refine lv_icmp_gt (tgt := 43) hx hb dX8_isDigit_36 (by decide) (fun c4 => ?_) (fun c4 => ?_)
      · have hf := nc_ifp hf c4
        refine lv_iconst (v := 0) hx hb dX8_isDigit_43 (by decide) ?_
        exact nc_rpp hret hf rfl hw dX8_isDigit_44
      · have hf := nc_ifn hf c4
        refine lv_iconst (v := 1) hx hb dX8_isDigit_39 (by decide) ?_
        refine lv_goto (tgt := 44) hx hb dX8_isDigit_40 (by decide) ?_
        exact nc_rpp hret hf rfl hw dX8_isDigit_44
abbrev rm_X8_number : Room := { frames := 1, cells := 0, slots := 0, locals := 20 }
set_option maxRecDepth 100000 in
set_option maxHeartbeats 4000000 in
theorem c_X8_number (l : Launch) {G : nc_G} {K : nc_K} {o : Nat} (h0 : nc_LModel G K o) (mi : nc_Mem) (a1 : Int32) (res : nc_Mem × Int32) (hf : f_X8_number mi o a1 = some res) : nc_M l yX8_number cX8_number 4 (some .boolean) rm_X8_number 0 0 G K K [.ref o, .int a1] mi res.1 (some (.int res.2)) := by
  refine nc_meet_i (by decide) (Nat.le_of_ble_eq_true rfl) ?_
  intro p e s m args below meth c Q H locs ls cx hret hw hl
  have cx : nc_C p s m args c cX8_number 4 RX8 G := cx
  have hl : lv_has ls 4 [(0, .ref o), (1, .int a1)] := hl
  have hx := cx.1
  have hb := cx.2.1
  unfold f_X8_number at hf
  refine lv_iconst (v := 0) hx hb dX8_number_0 (by decide) ?_
  refine lv_istore_n (lv' := [(2, .int 0), (0, .ref o), (1, .int a1)]) hx hb dX8_number_1 rfl hl (by decide) rfl (fun ls hl => ?_)
  refine lv_iconst (v := 0) hx hb dX8_number_2 (by decide) ?_
  refine lv_istore_n (lv' := [(3, .int 0), (2, .int 0), (0, .ref o), (1, .int a1)]) hx hb dX8_number_3 rfl hl (by decide) rfl (fun ls hl => ?_)
  obtain ⟨k1, ek1, hf⟩ := nc_jn_of hf
  have hk1 : ∀ (x2 : Int32) (x3 : Int32) (mi4 : nc_Mem), k1 x2 x3 mi4 = some res → ∀ (H : Heap) (locs : List Loc) (ls : Array Slot), nc_W G K mi4 H locs → lv_has ls 4 [(0, .ref o), (2, .int x2), (3, .int x3)] → W p l e rm_X8_number s m args below meth c H locs 0 0 Q (F0 m 50 ls []) := by
    intro x2 x3 mi4 hf H locs ls hw hl
    have hf := ((congrFun (congrFun (congrFun ek1 x2) x3) mi4)).symm.trans hf
    refine lv_iload_n hx hb dX8_number_50 rfl (lv_at hl 2 rfl) ?_
    obtain ⟨k5, ek5, hf⟩ := nc_jn_of hf
    have hk5 : ∀ (mi6 : nc_Mem), k5 mi6 = some res → ∀ (H : Heap) (locs : List Loc) (ls : Array Slot), nc_W G K mi6 H locs → lv_has ls 4 [(3, .int x3)] → W p l e rm_X8_number s m args below meth c H locs 0 0 Q (F0 m 71 ls []) := by
      intro mi6 hf H locs ls hw hl
      have hf := ((congrFun ek5 mi6)).symm.trans hf
      refine lv_iload_n hx hb dX8_number_71 rfl (lv_at hl 0 rfl) ?_
      refine lv_if_le (tgt := 79) hx hb dX8_number_72 (by decide) (fun c7 => ?_) (fun c7 => ?_)
      · have hf := nc_ifp hf c7
        refine lv_iconst (v := 0) hx hb dX8_number_79 (by decide) ?_
        exact nc_rpm hret hf rfl hw dX8_number_80
      · have hf := nc_ifn hf c7
        refine lv_iconst (v := 1) hx hb dX8_number_75 (by decide) ?_
        refine lv_goto (tgt := 80) hx hb dX8_number_76 (by decide) ?_
        exact nc_rpm hret hf rfl hw dX8_number_80
    refine lv_if_le (tgt := 71) hx hb dX8_number_51 (by decide) (fun c8 => ?_) (fun c8 => ?_)
    · have hf := nc_ifp hf c8
      exact hk5 _ hf _ _ _ hw (lv_sub hl [2] rfl)
    · have hf := nc_ifn hf c8
      refine lv_aload_n hx hb dX8_number_54 rfl (lv_at hl 0 rfl) ?_
      refine gr_X8_34 cx hw (lModel_is h0) (lModel_said h0) (lModel_said_L h0) dX8_number_55 ?_
      refine lv_aload_n hx hb dX8_number_58 rfl (lv_at hl 0 rfl) ?_
      refine lv_dup hx hb dX8_number_59 rfl ?_
      refine gi_X8_85 cx hw (lModel_is h0) dX8_number_60 ?_
      refine lv_dup_x1 hx hb dX8_number_63 rfl rfl ?_
      refine lv_iconst (v := 1) hx hb dX8_number_64 (by decide) ?_
      refine lv_iadd hx hb dX8_number_65 ?_
      refine pi_X8_85 cx hw (lModel_is h0) dX8_number_66 (fun mi9 H locs emi9 hw => ?_)
      have hf := nc_let_at hf emi9
      refine lv_iload_n hx hb dX8_number_69 rfl (lv_at hl 1 rfl) ?_
      obtain ⟨j10, ej10, ij10, lj10, hf⟩ := nc_ix hf
      refine nc_ist cx hw (lModel_said_L h0) ij10 ej10 dX8_number_70 (fun mi11 H locs emi11 hw => ?_)
      have hf := nc_let_at hf emi11
      exact hk5 _ hf _ _ _ hw (lv_sub hl [2] rfl)
  refine nc_loop_w (P := fun κ : Int32 → Int32 → nc_Mem → Option (nc_Mem × Int32) => ∀ (x12 : Int32) (x13 : Int32) (mi14 : nc_Mem), κ x12 x13 mi14 = some res → ∀ (H : Heap) (locs : List Loc) (ls : Array Slot), nc_W G K mi14 H locs → lv_has ls 4 [(0, .ref o), (1, .int a1), (2, .int x12), (3, .int x13)] → W p l e rm_X8_number s m args below meth c H locs 0 0 Q (F0 m 4 ls [])) ?_ ?_ 200 _ _ _ hf _ _ _ hw (lv_sub hl [2, 3, 1, 0] rfl)
  · intro x12 x13 mi14 hf; exact absurd hf (by intro q; cases q)
  · intro rc15 ihrc15 x12 x13 mi14 hf H locs ls hw hl
    unfold B_X8_number_4 at hf
    refine lv_iload_n hx hb dX8_number_4 rfl (lv_at hl 3 rfl) ?_
    refine lv_iload_n hx hb dX8_number_5 rfl (lv_at hl 1 rfl) ?_
    refine lv_icmp_ge (tgt := 50) hx hb dX8_number_6 (by decide) (fun c16 => ?_) (fun c16 => ?_)
    · have hf := nc_ifp hf c16
      exact hk1 _ _ _ hf _ _ _ hw (lv_sub hl [0, 2, 3] rfl)
    · have hf := nc_ifn hf c16
      refine lv_aload_n hx hb dX8_number_9 rfl (lv_at hl 0 rfl) ?_
      obtain ⟨q17, hq17, hf⟩ := nc_bi hf
      refine nc_callVi cx hw lk_X8_81 (c_X8_isDigit l h0 mi14  q17 hq17) (ci := 8) rfl (lModel_is h0) rfl hl.1 rfl (Nat.le_of_ble_eq_true rfl) ⟨rfl, rfl, Nat.le_of_ble_eq_true rfl, Nat.le_of_ble_eq_true rfl⟩ dX8_number_10 (fun H locs hw => ?_)
      refine lv_if_eq (tgt := 50) hx hb dX8_number_13 (by decide) (fun c18 => ?_) (fun c18 => ?_)
      · have hf := nc_ifp hf c18
        exact hk1 _ _ _ hf _ _ _ hw (lv_sub hl [0, 2, 3] rfl)
      · have hf := nc_ifn hf c18
        refine lv_bipush (v := 10) hx hb dX8_number_16 (by decide) ?_
        refine lv_iload_n hx hb dX8_number_18 rfl (lv_at hl 2 rfl) ?_
        refine lv_imul hx hb dX8_number_19 ?_
        refine lv_aload_n hx hb dX8_number_20 rfl (lv_at hl 0 rfl) ?_
        refine gr_X8_9 cx hw (lModel_is h0) (lModel_letters h0) (lModel_letters_L h0) dX8_number_21 ?_
        refine lv_aload_n hx hb dX8_number_24 rfl (lv_at hl 0 rfl) ?_
        refine gi_X8_78 cx hw (lModel_is h0) dX8_number_25 ?_
        obtain ⟨j19, ej19, ij19, lj19, hf⟩ := nc_ix hf
        refine nc_ild cx hw (lModel_letters_L h0) ij19 ej19 dX8_number_28 ?_
        refine lv_iadd hx hb dX8_number_29 ?_
        refine lv_bipush (v := 48) hx hb dX8_number_30 (by decide) ?_
        refine lv_isub hx hb dX8_number_32 ?_
        refine lv_topi (fun x20 ex20 => ?_)
        have hf := nc_let_at hf ex20
        refine lv_istore_n (lv' := [(2, .int x20), (0, .ref o), (1, .int a1), (3, .int x13)]) hx hb dX8_number_33 rfl hl (by decide) rfl (fun ls hl => ?_)
        refine lv_aload_n hx hb dX8_number_34 rfl (lv_at hl 1 rfl) ?_
        refine lv_dup hx hb dX8_number_35 rfl ?_
        refine gi_X8_78 cx hw (lModel_is h0) dX8_number_36 ?_
        refine lv_iconst (v := 1) hx hb dX8_number_39 (by decide) ?_
        refine lv_iadd hx hb dX8_number_40 ?_
        refine pi_X8_78 cx hw (lModel_is h0) dX8_number_41 (fun mi21 H locs emi21 hw => ?_)
        have hf := nc_let_at hf emi21
        obtain ⟨x22, ex22⟩ : ∃ y : Int32, y = x13 + 1 := ⟨_, rfl⟩
        have hf := nc_let_at hf ex22
        refine lv_iinc (v := x22) (lv' := [(3, .int x22), (2, .int x20), (0, .ref o), (1, .int a1)]) hx hb dX8_number_44 hl (k := 3) rfl (by rw [ex22]; rfl) (by decide) rfl (fun ls hl => ?_)
        refine lv_goto (tgt := 4) hx hb dX8_number_47 (by decide) ?_
        exact ihrc15 _ _ _ hf _ _ _ hw (lv_sub hl [2, 3, 1, 0] rfl)
abbrev rm_X8_comma : Room := { frames := 2, cells := 0, slots := 0, locals := 43 }
set_option maxRecDepth 100000 in
set_option maxHeartbeats 4000000 in
theorem c_X8_comma (l : Launch) {G : nc_G} {K : nc_K} {o : Nat} (h0 : nc_LModel G K o) (mi : nc_Mem) (a1 : Int32) (res : nc_Mem × Int32) (hf : f_X8_comma mi o a1 = some res) : nc_M l yX8_comma cX8_comma 2 (some .boolean) rm_X8_comma 0 0 G K K [.ref o, .int a1] mi res.1 (some (.int res.2)) := by
  refine nc_meet_i (by decide) (Nat.le_of_ble_eq_true rfl) ?_
  intro p e s m args below meth c Q H locs ls cx hret hw hl
  have cx : nc_C p s m args c cX8_comma 2 RX8 G := cx
  have hl : lv_has ls 2 [(0, .ref o), (1, .int a1)] := hl
  have hx := cx.1
  have hb := cx.2.1
  unfold f_X8_comma at hf
  refine lv_aload_n hx hb dX8_comma_0 rfl (lv_at hl 0 rfl) ?_
  refine lv_bipush (v := 44) hx hb dX8_comma_1 (by decide) ?_
  obtain ⟨q1, hq1, hf⟩ := nc_bi hf
  refine nc_callVi cx hw lk_X8_88 (c_X8_must l h0 mi 44 q1 hq1) (ci := 8) rfl (lModel_is h0) rfl hl.1 rfl (Nat.le_of_ble_eq_true rfl) ⟨rfl, rfl, Nat.le_of_ble_eq_true rfl, Nat.le_of_ble_eq_true rfl⟩ dX8_comma_3 (fun H locs hw => ?_)
  refine lv_if_eq (tgt := 21) hx hb dX8_comma_6 (by decide) (fun c2 => ?_) (fun c2 => ?_)
  · have hf := nc_ifp hf c2
    refine lv_iconst (v := 0) hx hb dX8_comma_21 (by decide) ?_
    exact nc_rpm hret hf rfl hw dX8_comma_22
  · have hf := nc_ifn hf c2
    refine lv_aload_n hx hb dX8_comma_9 rfl (lv_at hl 0 rfl) ?_
    refine lv_iload_n hx hb dX8_comma_10 rfl (lv_at hl 1 rfl) ?_
    obtain ⟨q3, hq3, hf⟩ := nc_bi hf
    refine nc_callVi cx hw lk_X8_92 (c_X8_number l h0 q1.1 a1 q3 hq3) (ci := 8) rfl (lModel_is h0) rfl hl.1 rfl (Nat.le_of_ble_eq_true rfl) ⟨rfl, rfl, Nat.le_of_ble_eq_true rfl, Nat.le_of_ble_eq_true rfl⟩ dX8_comma_11 (fun H locs hw => ?_)
    refine lv_if_eq (tgt := 21) hx hb dX8_comma_14 (by decide) (fun c4 => ?_) (fun c4 => ?_)
    · have hf := nc_ifp hf c4
      refine lv_iconst (v := 0) hx hb dX8_comma_21 (by decide) ?_
      exact nc_rpm hret hf rfl hw dX8_comma_22
    · have hf := nc_ifn hf c4
      refine lv_iconst (v := 1) hx hb dX8_comma_17 (by decide) ?_
      refine lv_goto (tgt := 22) hx hb dX8_comma_18 (by decide) ?_
      exact nc_rpm hret hf rfl hw dX8_comma_22
abbrev rm_X8_goesBy : Room := { frames := 3, cells := 0, slots := 0, locals := 64 }
set_option maxRecDepth 100000 in
set_option maxHeartbeats 4000000 in
theorem c_X8_goesBy (l : Launch) {G : nc_G} {K : nc_K} {o : Nat} (h0 : nc_LModel G K o) (mi : nc_Mem)  (res : nc_Mem × Int32) (hf : f_X8_goesBy mi o = some res) : nc_M l yX8_goesBy cX8_goesBy 2 (some .boolean) rm_X8_goesBy 0 0 G K K [.ref o] mi res.1 (some (.int res.2)) := by
  refine nc_meet_i (by decide) (Nat.le_of_ble_eq_true rfl) ?_
  intro p e s m args below meth c Q H locs ls cx hret hw hl
  have cx : nc_C p s m args c cX8_goesBy 2 RX8 G := cx
  have hl : lv_has ls 2 [(0, .ref o)] := hl
  have hx := cx.1
  have hb := cx.2.1
  unfold f_X8_goesBy at hf
  refine lv_aload_n hx hb dX8_goesBy_0 rfl (lv_at hl 0 rfl) ?_
  refine lv_iconst (v := 0) hx hb dX8_goesBy_1 (by decide) ?_
  refine pi_X8_85 cx hw (lModel_is h0) dX8_goesBy_2 (fun mi1 H locs emi1 hw => ?_)
  have hf := nc_let_at hf emi1
  refine lv_aload_n hx hb dX8_goesBy_5 rfl (lv_at hl 0 rfl) ?_
  refine lv_bipush (v := 110) hx hb dX8_goesBy_6 (by decide) ?_
  obtain ⟨q2, hq2, hf⟩ := nc_bi hf
  refine nc_callVi cx hw lk_X8_88 (c_X8_must l h0 mi1 110 q2 hq2) (ci := 8) rfl (lModel_is h0) rfl hl.1 rfl (Nat.le_of_ble_eq_true rfl) ⟨rfl, rfl, Nat.le_of_ble_eq_true rfl, Nat.le_of_ble_eq_true rfl⟩ dX8_goesBy_8 (fun H locs hw => ?_)
  obtain ⟨k3, ek3, hf⟩ := nc_jn_of hf
  have hk3 : ∀ (x4 : Int32) (mi5 : nc_Mem), k3 x4 mi5 = some res → ∀ (H : Heap) (locs : List Loc) (ls : Array Slot), nc_W G K mi5 H locs → lv_has ls 2 [(0, .ref o), (1, .int x4)] → W p l e rm_X8_goesBy s m args below meth c H locs 0 0 Q (F0 m 194 ls []) := by
    intro x4 mi5 hf H locs ls hw hl
    have hf := ((congrFun (congrFun ek3 x4) mi5)).symm.trans hf
    refine lv_iload_n hx hb dX8_goesBy_194 rfl (lv_at hl 1 rfl) ?_
    refine lv_if_eq (tgt := 211) hx hb dX8_goesBy_195 (by decide) (fun c6 => ?_) (fun c6 => ?_)
    · have hf := nc_ifp hf c6
      refine lv_iconst (v := 0) hx hb dX8_goesBy_211 (by decide) ?_
      exact nc_rpm hret hf rfl hw dX8_goesBy_212
    · have hf := nc_ifn hf c6
      refine lv_aload_n hx hb dX8_goesBy_198 rfl (lv_at hl 0 rfl) ?_
      refine lv_bipush (v := 59) hx hb dX8_goesBy_199 (by decide) ?_
      obtain ⟨q7, hq7, hf⟩ := nc_bi hf
      refine nc_callVi cx hw lk_X8_88 (c_X8_must l h0 mi5 59 q7 hq7) (ci := 8) rfl (lModel_is h0) rfl hl.1 rfl (Nat.le_of_ble_eq_true rfl) ⟨rfl, rfl, Nat.le_of_ble_eq_true rfl, Nat.le_of_ble_eq_true rfl⟩ dX8_goesBy_201 (fun H locs hw => ?_)
      refine lv_if_eq (tgt := 211) hx hb dX8_goesBy_204 (by decide) (fun c8 => ?_) (fun c8 => ?_)
      · have hf := nc_ifp hf c8
        refine lv_iconst (v := 0) hx hb dX8_goesBy_211 (by decide) ?_
        exact nc_rpm hret hf rfl hw dX8_goesBy_212
      · have hf := nc_ifn hf c8
        refine lv_iconst (v := 1) hx hb dX8_goesBy_207 (by decide) ?_
        refine lv_goto (tgt := 212) hx hb dX8_goesBy_208 (by decide) ?_
        exact nc_rpm hret hf rfl hw dX8_goesBy_212
  refine lv_if_eq (tgt := 23) hx hb dX8_goesBy_11 (by decide) (fun c9 => ?_) (fun c9 => ?_)
  · have hf := nc_ifp hf c9
    refine lv_aload_n hx hb dX8_goesBy_23 rfl (lv_at hl 0 rfl) ?_
    refine lv_bipush (v := 119) hx hb dX8_goesBy_24 (by decide) ?_
    obtain ⟨q10, hq10, hf⟩ := nc_bi hf
    refine nc_callVi cx hw lk_X8_88 (c_X8_must l h0 q2.1 119 q10 hq10) (ci := 8) rfl (lModel_is h0) rfl hl.1 rfl (Nat.le_of_ble_eq_true rfl) ⟨rfl, rfl, Nat.le_of_ble_eq_true rfl, Nat.le_of_ble_eq_true rfl⟩ dX8_goesBy_26 (fun H locs hw => ?_)
    refine lv_if_eq (tgt := 65) hx hb dX8_goesBy_29 (by decide) (fun c11 => ?_) (fun c11 => ?_)
    · have hf := nc_ifp hf c11
      refine lv_aload_n hx hb dX8_goesBy_65 rfl (lv_at hl 0 rfl) ?_
      refine lv_bipush (v := 112) hx hb dX8_goesBy_66 (by decide) ?_
      obtain ⟨q12, hq12, hf⟩ := nc_bi hf
      refine nc_callVi cx hw lk_X8_88 (c_X8_must l h0 q10.1 112 q12 hq12) (ci := 8) rfl (lModel_is h0) rfl hl.1 rfl (Nat.le_of_ble_eq_true rfl) ⟨rfl, rfl, Nat.le_of_ble_eq_true rfl, Nat.le_of_ble_eq_true rfl⟩ dX8_goesBy_68 (fun H locs hw => ?_)
      refine lv_if_eq (tgt := 123) hx hb dX8_goesBy_71 (by decide) (fun c13 => ?_) (fun c13 => ?_)
      · have hf := nc_ifp hf c13
        refine lv_aload_n hx hb dX8_goesBy_123 rfl (lv_at hl 0 rfl) ?_
        refine lv_bipush (v := 116) hx hb dX8_goesBy_124 (by decide) ?_
        obtain ⟨q14, hq14, hf⟩ := nc_bi hf
        refine nc_callVi cx hw lk_X8_88 (c_X8_must l h0 q12.1 116 q14 hq14) (ci := 8) rfl (lModel_is h0) rfl hl.1 rfl (Nat.le_of_ble_eq_true rfl) ⟨rfl, rfl, Nat.le_of_ble_eq_true rfl, Nat.le_of_ble_eq_true rfl⟩ dX8_goesBy_126 (fun H locs hw => ?_)
        refine lv_if_eq (tgt := 192) hx hb dX8_goesBy_129 (by decide) (fun c15 => ?_) (fun c15 => ?_)
        · have hf := nc_ifp hf c15
          refine lv_iconst (v := 0) hx hb dX8_goesBy_192 (by decide) ?_
          refine lv_istore_n (lv' := [(1, .int 0), (0, .ref o)]) hx hb dX8_goesBy_193 rfl hl (by decide) rfl (fun ls hl => ?_)
          exact hk3 _ _ hf _ _ _ hw (lv_sub hl [1, 0] rfl)
        · have hf := nc_ifn hf c15
          refine lv_aload_n hx hb dX8_goesBy_132 rfl (lv_at hl 0 rfl) ?_
          refine lv_iconst (v := 1) hx hb dX8_goesBy_133 (by decide) ?_
          obtain ⟨q16, hq16, hf⟩ := nc_bi hf
          refine nc_callVi cx hw lk_X8_92 (c_X8_number l h0 q14.1 1 q16 hq16) (ci := 8) rfl (lModel_is h0) rfl hl.1 rfl (Nat.le_of_ble_eq_true rfl) ⟨rfl, rfl, Nat.le_of_ble_eq_true rfl, Nat.le_of_ble_eq_true rfl⟩ dX8_goesBy_134 (fun H locs hw => ?_)
          refine lv_if_eq (tgt := 192) hx hb dX8_goesBy_137 (by decide) (fun c17 => ?_) (fun c17 => ?_)
          · have hf := nc_ifp hf c17
            refine lv_iconst (v := 0) hx hb dX8_goesBy_192 (by decide) ?_
            refine lv_istore_n (lv' := [(1, .int 0), (0, .ref o)]) hx hb dX8_goesBy_193 rfl hl (by decide) rfl (fun ls hl => ?_)
            exact hk3 _ _ hf _ _ _ hw (lv_sub hl [1, 0] rfl)
          · have hf := nc_ifn hf c17
            refine lv_aload_n hx hb dX8_goesBy_140 rfl (lv_at hl 0 rfl) ?_
            refine lv_iconst (v := 1) hx hb dX8_goesBy_141 (by decide) ?_
            obtain ⟨q18, hq18, hf⟩ := nc_bi hf
            refine nc_callVi cx hw lk_X8_92 (c_X8_number l h0 q16.1 1 q18 hq18) (ci := 8) rfl (lModel_is h0) rfl hl.1 rfl (Nat.le_of_ble_eq_true rfl) ⟨rfl, rfl, Nat.le_of_ble_eq_true rfl, Nat.le_of_ble_eq_true rfl⟩ dX8_goesBy_142 (fun H locs hw => ?_)
            refine lv_if_eq (tgt := 192) hx hb dX8_goesBy_145 (by decide) (fun c19 => ?_) (fun c19 => ?_)
            · have hf := nc_ifp hf c19
              refine lv_iconst (v := 0) hx hb dX8_goesBy_192 (by decide) ?_
              refine lv_istore_n (lv' := [(1, .int 0), (0, .ref o)]) hx hb dX8_goesBy_193 rfl hl (by decide) rfl (fun ls hl => ?_)
              exact hk3 _ _ hf _ _ _ hw (lv_sub hl [1, 0] rfl)
            · have hf := nc_ifn hf c19
              refine lv_aload_n hx hb dX8_goesBy_148 rfl (lv_at hl 0 rfl) ?_
              refine lv_iconst (v := 1) hx hb dX8_goesBy_149 (by decide) ?_
              obtain ⟨q20, hq20, hf⟩ := nc_bi hf
              refine nc_callVi cx hw lk_X8_92 (c_X8_number l h0 q18.1 1 q20 hq20) (ci := 8) rfl (lModel_is h0) rfl hl.1 rfl (Nat.le_of_ble_eq_true rfl) ⟨rfl, rfl, Nat.le_of_ble_eq_true rfl, Nat.le_of_ble_eq_true rfl⟩ dX8_goesBy_150 (fun H locs hw => ?_)
              refine lv_if_eq (tgt := 192) hx hb dX8_goesBy_153 (by decide) (fun c21 => ?_) (fun c21 => ?_)
              · have hf := nc_ifp hf c21
                refine lv_iconst (v := 0) hx hb dX8_goesBy_192 (by decide) ?_
                refine lv_istore_n (lv' := [(1, .int 0), (0, .ref o)]) hx hb dX8_goesBy_193 rfl hl (by decide) rfl (fun ls hl => ?_)
                exact hk3 _ _ hf _ _ _ hw (lv_sub hl [1, 0] rfl)
              · have hf := nc_ifn hf c21
                refine lv_aload_n hx hb dX8_goesBy_156 rfl (lv_at hl 0 rfl) ?_
                refine lv_iconst (v := 1) hx hb dX8_goesBy_157 (by decide) ?_
                obtain ⟨q22, hq22, hf⟩ := nc_bi hf
                refine nc_callVi cx hw lk_X8_92 (c_X8_number l h0 q20.1 1 q22 hq22) (ci := 8) rfl (lModel_is h0) rfl hl.1 rfl (Nat.le_of_ble_eq_true rfl) ⟨rfl, rfl, Nat.le_of_ble_eq_true rfl, Nat.le_of_ble_eq_true rfl⟩ dX8_goesBy_158 (fun H locs hw => ?_)
                refine lv_if_eq (tgt := 192) hx hb dX8_goesBy_161 (by decide) (fun c23 => ?_) (fun c23 => ?_)
                · have hf := nc_ifp hf c23
                  refine lv_iconst (v := 0) hx hb dX8_goesBy_192 (by decide) ?_
                  refine lv_istore_n (lv' := [(1, .int 0), (0, .ref o)]) hx hb dX8_goesBy_193 rfl hl (by decide) rfl (fun ls hl => ?_)
                  exact hk3 _ _ hf _ _ _ hw (lv_sub hl [1, 0] rfl)
                · have hf := nc_ifn hf c23
                  refine lv_aload_n hx hb dX8_goesBy_164 rfl (lv_at hl 0 rfl) ?_
                  refine lv_iconst (v := 1) hx hb dX8_goesBy_165 (by decide) ?_
                  obtain ⟨q24, hq24, hf⟩ := nc_bi hf
                  refine nc_callVi cx hw lk_X8_95 (c_X8_comma l h0 q22.1 1 q24 hq24) (ci := 8) rfl (lModel_is h0) rfl hl.1 rfl (Nat.le_of_ble_eq_true rfl) ⟨rfl, rfl, Nat.le_of_ble_eq_true rfl, Nat.le_of_ble_eq_true rfl⟩ dX8_goesBy_166 (fun H locs hw => ?_)
                  refine lv_if_eq (tgt := 192) hx hb dX8_goesBy_169 (by decide) (fun c25 => ?_) (fun c25 => ?_)
                  · have hf := nc_ifp hf c25
                    refine lv_iconst (v := 0) hx hb dX8_goesBy_192 (by decide) ?_
                    refine lv_istore_n (lv' := [(1, .int 0), (0, .ref o)]) hx hb dX8_goesBy_193 rfl hl (by decide) rfl (fun ls hl => ?_)
                    exact hk3 _ _ hf _ _ _ hw (lv_sub hl [1, 0] rfl)
                  · have hf := nc_ifn hf c25
                    refine lv_aload_n hx hb dX8_goesBy_172 rfl (lv_at hl 0 rfl) ?_
                    refine lv_iconst (v := 3) hx hb dX8_goesBy_173 (by decide) ?_
                    obtain ⟨q26, hq26, hf⟩ := nc_bi hf
                    refine nc_callVi cx hw lk_X8_95 (c_X8_comma l h0 q24.1 3 q26 hq26) (ci := 8) rfl (lModel_is h0) rfl hl.1 rfl (Nat.le_of_ble_eq_true rfl) ⟨rfl, rfl, Nat.le_of_ble_eq_true rfl, Nat.le_of_ble_eq_true rfl⟩ dX8_goesBy_174 (fun H locs hw => ?_)
                    refine lv_if_eq (tgt := 192) hx hb dX8_goesBy_177 (by decide) (fun c27 => ?_) (fun c27 => ?_)
                    · have hf := nc_ifp hf c27
                      refine lv_iconst (v := 0) hx hb dX8_goesBy_192 (by decide) ?_
                      refine lv_istore_n (lv' := [(1, .int 0), (0, .ref o)]) hx hb dX8_goesBy_193 rfl hl (by decide) rfl (fun ls hl => ?_)
                      exact hk3 _ _ hf _ _ _ hw (lv_sub hl [1, 0] rfl)
                    · have hf := nc_ifn hf c27
                      refine lv_aload_n hx hb dX8_goesBy_180 rfl (lv_at hl 0 rfl) ?_
                      refine lv_iconst (v := 2) hx hb dX8_goesBy_181 (by decide) ?_
                      obtain ⟨q28, hq28, hf⟩ := nc_bi hf
                      refine nc_callVi cx hw lk_X8_95 (c_X8_comma l h0 q26.1 2 q28 hq28) (ci := 8) rfl (lModel_is h0) rfl hl.1 rfl (Nat.le_of_ble_eq_true rfl) ⟨rfl, rfl, Nat.le_of_ble_eq_true rfl, Nat.le_of_ble_eq_true rfl⟩ dX8_goesBy_182 (fun H locs hw => ?_)
                      refine lv_if_eq (tgt := 192) hx hb dX8_goesBy_185 (by decide) (fun c29 => ?_) (fun c29 => ?_)
                      · have hf := nc_ifp hf c29
                        refine lv_iconst (v := 0) hx hb dX8_goesBy_192 (by decide) ?_
                        refine lv_istore_n (lv' := [(1, .int 0), (0, .ref o)]) hx hb dX8_goesBy_193 rfl hl (by decide) rfl (fun ls hl => ?_)
                        exact hk3 _ _ hf _ _ _ hw (lv_sub hl [1, 0] rfl)
                      · have hf := nc_ifn hf c29
                        refine lv_iconst (v := 1) hx hb dX8_goesBy_188 (by decide) ?_
                        refine lv_goto (tgt := 193) hx hb dX8_goesBy_189 (by decide) ?_
                        refine lv_istore_n (lv' := [(1, .int 1), (0, .ref o)]) hx hb dX8_goesBy_193 rfl hl (by decide) rfl (fun ls hl => ?_)
                        exact hk3 _ _ hf _ _ _ hw (lv_sub hl [1, 0] rfl)
      · have hf := nc_ifn hf c13
        refine lv_aload_n hx hb dX8_goesBy_74 rfl (lv_at hl 0 rfl) ?_
        refine lv_iconst (v := 1) hx hb dX8_goesBy_75 (by decide) ?_
        obtain ⟨q30, hq30, hf⟩ := nc_bi hf
        refine nc_callVi cx hw lk_X8_92 (c_X8_number l h0 q12.1 1 q30 hq30) (ci := 8) rfl (lModel_is h0) rfl hl.1 rfl (Nat.le_of_ble_eq_true rfl) ⟨rfl, rfl, Nat.le_of_ble_eq_true rfl, Nat.le_of_ble_eq_true rfl⟩ dX8_goesBy_76 (fun H locs hw => ?_)
        refine lv_if_eq (tgt := 118) hx hb dX8_goesBy_79 (by decide) (fun c31 => ?_) (fun c31 => ?_)
        · have hf := nc_ifp hf c31
          refine lv_iconst (v := 0) hx hb dX8_goesBy_118 (by decide) ?_
          refine lv_istore_n (lv' := [(1, .int 0), (0, .ref o)]) hx hb dX8_goesBy_119 rfl hl (by decide) rfl (fun ls hl => ?_)
          refine lv_goto (tgt := 194) hx hb dX8_goesBy_120 (by decide) ?_
          exact hk3 _ _ hf _ _ _ hw (lv_sub hl [1, 0] rfl)
        · have hf := nc_ifn hf c31
          refine lv_aload_n hx hb dX8_goesBy_82 rfl (lv_at hl 0 rfl) ?_
          refine lv_iconst (v := 1) hx hb dX8_goesBy_83 (by decide) ?_
          obtain ⟨q32, hq32, hf⟩ := nc_bi hf
          refine nc_callVi cx hw lk_X8_92 (c_X8_number l h0 q30.1 1 q32 hq32) (ci := 8) rfl (lModel_is h0) rfl hl.1 rfl (Nat.le_of_ble_eq_true rfl) ⟨rfl, rfl, Nat.le_of_ble_eq_true rfl, Nat.le_of_ble_eq_true rfl⟩ dX8_goesBy_84 (fun H locs hw => ?_)
          refine lv_if_eq (tgt := 118) hx hb dX8_goesBy_87 (by decide) (fun c33 => ?_) (fun c33 => ?_)
          · have hf := nc_ifp hf c33
            refine lv_iconst (v := 0) hx hb dX8_goesBy_118 (by decide) ?_
            refine lv_istore_n (lv' := [(1, .int 0), (0, .ref o)]) hx hb dX8_goesBy_119 rfl hl (by decide) rfl (fun ls hl => ?_)
            refine lv_goto (tgt := 194) hx hb dX8_goesBy_120 (by decide) ?_
            exact hk3 _ _ hf _ _ _ hw (lv_sub hl [1, 0] rfl)
          · have hf := nc_ifn hf c33
            refine lv_aload_n hx hb dX8_goesBy_90 rfl (lv_at hl 0 rfl) ?_
            refine lv_iconst (v := 3) hx hb dX8_goesBy_91 (by decide) ?_
            obtain ⟨q34, hq34, hf⟩ := nc_bi hf
            refine nc_callVi cx hw lk_X8_95 (c_X8_comma l h0 q32.1 3 q34 hq34) (ci := 8) rfl (lModel_is h0) rfl hl.1 rfl (Nat.le_of_ble_eq_true rfl) ⟨rfl, rfl, Nat.le_of_ble_eq_true rfl, Nat.le_of_ble_eq_true rfl⟩ dX8_goesBy_92 (fun H locs hw => ?_)
            refine lv_if_eq (tgt := 118) hx hb dX8_goesBy_95 (by decide) (fun c35 => ?_) (fun c35 => ?_)
            · have hf := nc_ifp hf c35
              refine lv_iconst (v := 0) hx hb dX8_goesBy_118 (by decide) ?_
              refine lv_istore_n (lv' := [(1, .int 0), (0, .ref o)]) hx hb dX8_goesBy_119 rfl hl (by decide) rfl (fun ls hl => ?_)
              refine lv_goto (tgt := 194) hx hb dX8_goesBy_120 (by decide) ?_
              exact hk3 _ _ hf _ _ _ hw (lv_sub hl [1, 0] rfl)
            · have hf := nc_ifn hf c35
              refine lv_aload_n hx hb dX8_goesBy_98 rfl (lv_at hl 0 rfl) ?_
              refine lv_iconst (v := 1) hx hb dX8_goesBy_99 (by decide) ?_
              obtain ⟨q36, hq36, hf⟩ := nc_bi hf
              refine nc_callVi cx hw lk_X8_95 (c_X8_comma l h0 q34.1 1 q36 hq36) (ci := 8) rfl (lModel_is h0) rfl hl.1 rfl (Nat.le_of_ble_eq_true rfl) ⟨rfl, rfl, Nat.le_of_ble_eq_true rfl, Nat.le_of_ble_eq_true rfl⟩ dX8_goesBy_100 (fun H locs hw => ?_)
              refine lv_if_eq (tgt := 118) hx hb dX8_goesBy_103 (by decide) (fun c37 => ?_) (fun c37 => ?_)
              · have hf := nc_ifp hf c37
                refine lv_iconst (v := 0) hx hb dX8_goesBy_118 (by decide) ?_
                refine lv_istore_n (lv' := [(1, .int 0), (0, .ref o)]) hx hb dX8_goesBy_119 rfl hl (by decide) rfl (fun ls hl => ?_)
                refine lv_goto (tgt := 194) hx hb dX8_goesBy_120 (by decide) ?_
                exact hk3 _ _ hf _ _ _ hw (lv_sub hl [1, 0] rfl)
              · have hf := nc_ifn hf c37
                refine lv_aload_n hx hb dX8_goesBy_106 rfl (lv_at hl 0 rfl) ?_
                refine lv_iconst (v := 1) hx hb dX8_goesBy_107 (by decide) ?_
                obtain ⟨q38, hq38, hf⟩ := nc_bi hf
                refine nc_callVi cx hw lk_X8_95 (c_X8_comma l h0 q36.1 1 q38 hq38) (ci := 8) rfl (lModel_is h0) rfl hl.1 rfl (Nat.le_of_ble_eq_true rfl) ⟨rfl, rfl, Nat.le_of_ble_eq_true rfl, Nat.le_of_ble_eq_true rfl⟩ dX8_goesBy_108 (fun H locs hw => ?_)
                refine lv_if_eq (tgt := 118) hx hb dX8_goesBy_111 (by decide) (fun c39 => ?_) (fun c39 => ?_)
                · have hf := nc_ifp hf c39
                  refine lv_iconst (v := 0) hx hb dX8_goesBy_118 (by decide) ?_
                  refine lv_istore_n (lv' := [(1, .int 0), (0, .ref o)]) hx hb dX8_goesBy_119 rfl hl (by decide) rfl (fun ls hl => ?_)
                  refine lv_goto (tgt := 194) hx hb dX8_goesBy_120 (by decide) ?_
                  exact hk3 _ _ hf _ _ _ hw (lv_sub hl [1, 0] rfl)
                · have hf := nc_ifn hf c39
                  refine lv_iconst (v := 1) hx hb dX8_goesBy_114 (by decide) ?_
                  refine lv_goto (tgt := 119) hx hb dX8_goesBy_115 (by decide) ?_
                  refine lv_istore_n (lv' := [(1, .int 1), (0, .ref o)]) hx hb dX8_goesBy_119 rfl hl (by decide) rfl (fun ls hl => ?_)
                  refine lv_goto (tgt := 194) hx hb dX8_goesBy_120 (by decide) ?_
                  exact hk3 _ _ hf _ _ _ hw (lv_sub hl [1, 0] rfl)
    · have hf := nc_ifn hf c11
      refine lv_aload_n hx hb dX8_goesBy_32 rfl (lv_at hl 0 rfl) ?_
      refine lv_iconst (v := 1) hx hb dX8_goesBy_33 (by decide) ?_
      obtain ⟨q40, hq40, hf⟩ := nc_bi hf
      refine nc_callVi cx hw lk_X8_92 (c_X8_number l h0 q10.1 1 q40 hq40) (ci := 8) rfl (lModel_is h0) rfl hl.1 rfl (Nat.le_of_ble_eq_true rfl) ⟨rfl, rfl, Nat.le_of_ble_eq_true rfl, Nat.le_of_ble_eq_true rfl⟩ dX8_goesBy_34 (fun H locs hw => ?_)
      refine lv_if_eq (tgt := 60) hx hb dX8_goesBy_37 (by decide) (fun c41 => ?_) (fun c41 => ?_)
      · have hf := nc_ifp hf c41
        refine lv_iconst (v := 0) hx hb dX8_goesBy_60 (by decide) ?_
        refine lv_istore_n (lv' := [(1, .int 0), (0, .ref o)]) hx hb dX8_goesBy_61 rfl hl (by decide) rfl (fun ls hl => ?_)
        refine lv_goto (tgt := 194) hx hb dX8_goesBy_62 (by decide) ?_
        exact hk3 _ _ hf _ _ _ hw (lv_sub hl [1, 0] rfl)
      · have hf := nc_ifn hf c41
        refine lv_aload_n hx hb dX8_goesBy_40 rfl (lv_at hl 0 rfl) ?_
        refine lv_iconst (v := 1) hx hb dX8_goesBy_41 (by decide) ?_
        obtain ⟨q42, hq42, hf⟩ := nc_bi hf
        refine nc_callVi cx hw lk_X8_92 (c_X8_number l h0 q40.1 1 q42 hq42) (ci := 8) rfl (lModel_is h0) rfl hl.1 rfl (Nat.le_of_ble_eq_true rfl) ⟨rfl, rfl, Nat.le_of_ble_eq_true rfl, Nat.le_of_ble_eq_true rfl⟩ dX8_goesBy_42 (fun H locs hw => ?_)
        refine lv_if_eq (tgt := 60) hx hb dX8_goesBy_45 (by decide) (fun c43 => ?_) (fun c43 => ?_)
        · have hf := nc_ifp hf c43
          refine lv_iconst (v := 0) hx hb dX8_goesBy_60 (by decide) ?_
          refine lv_istore_n (lv' := [(1, .int 0), (0, .ref o)]) hx hb dX8_goesBy_61 rfl hl (by decide) rfl (fun ls hl => ?_)
          refine lv_goto (tgt := 194) hx hb dX8_goesBy_62 (by decide) ?_
          exact hk3 _ _ hf _ _ _ hw (lv_sub hl [1, 0] rfl)
        · have hf := nc_ifn hf c43
          refine lv_aload_n hx hb dX8_goesBy_48 rfl (lv_at hl 0 rfl) ?_
          refine lv_iconst (v := 2) hx hb dX8_goesBy_49 (by decide) ?_
          obtain ⟨q44, hq44, hf⟩ := nc_bi hf
          refine nc_callVi cx hw lk_X8_95 (c_X8_comma l h0 q42.1 2 q44 hq44) (ci := 8) rfl (lModel_is h0) rfl hl.1 rfl (Nat.le_of_ble_eq_true rfl) ⟨rfl, rfl, Nat.le_of_ble_eq_true rfl, Nat.le_of_ble_eq_true rfl⟩ dX8_goesBy_50 (fun H locs hw => ?_)
          refine lv_if_eq (tgt := 60) hx hb dX8_goesBy_53 (by decide) (fun c45 => ?_) (fun c45 => ?_)
          · have hf := nc_ifp hf c45
            refine lv_iconst (v := 0) hx hb dX8_goesBy_60 (by decide) ?_
            refine lv_istore_n (lv' := [(1, .int 0), (0, .ref o)]) hx hb dX8_goesBy_61 rfl hl (by decide) rfl (fun ls hl => ?_)
            refine lv_goto (tgt := 194) hx hb dX8_goesBy_62 (by decide) ?_
            exact hk3 _ _ hf _ _ _ hw (lv_sub hl [1, 0] rfl)
          · have hf := nc_ifn hf c45
            refine lv_iconst (v := 1) hx hb dX8_goesBy_56 (by decide) ?_
            refine lv_goto (tgt := 61) hx hb dX8_goesBy_57 (by decide) ?_
            refine lv_istore_n (lv' := [(1, .int 1), (0, .ref o)]) hx hb dX8_goesBy_61 rfl hl (by decide) rfl (fun ls hl => ?_)
            refine lv_goto (tgt := 194) hx hb dX8_goesBy_62 (by decide) ?_
            exact hk3 _ _ hf _ _ _ hw (lv_sub hl [1, 0] rfl)
  · have hf := nc_ifn hf c9
    refine lv_aload_n hx hb dX8_goesBy_14 rfl (lv_at hl 0 rfl) ?_
    refine lv_iconst (v := 1) hx hb dX8_goesBy_15 (by decide) ?_
    obtain ⟨q46, hq46, hf⟩ := nc_bi hf
    refine nc_callVi cx hw lk_X8_92 (c_X8_number l h0 q2.1 1 q46 hq46) (ci := 8) rfl (lModel_is h0) rfl hl.1 rfl (Nat.le_of_ble_eq_true rfl) ⟨rfl, rfl, Nat.le_of_ble_eq_true rfl, Nat.le_of_ble_eq_true rfl⟩ dX8_goesBy_16 (fun H locs hw => ?_)
    refine lv_istore_n (lv' := [(1, .int q46.2), (0, .ref o)]) hx hb dX8_goesBy_19 rfl hl (by decide) rfl (fun ls hl => ?_)
    refine lv_goto (tgt := 194) hx hb dX8_goesBy_20 (by decide) ?_
    exact hk3 _ _ hf _ _ _ hw (lv_sub hl [1, 0] rfl)
abbrev rm_X8_faultOfForm : Room := { frames := 4, cells := 0, slots := 0, locals := 85 }
set_option maxRecDepth 100000 in
set_option maxHeartbeats 4000000 in
theorem c_X8_faultOfForm (l : Launch) {G : nc_G} {K : nc_K} {o : Nat} (h0 : nc_LModel G K o) (mi : nc_Mem)  (res : nc_Mem × Int32) (hf : f_X8_faultOfForm mi o = some res) : nc_M l yX8_faultOfForm cX8_faultOfForm 1 (some .int) rm_X8_faultOfForm 0 0 G K K [.ref o] mi res.1 (some (.int res.2)) := by
  refine nc_meet_i (by decide) (Nat.le_of_ble_eq_true rfl) ?_
  intro p e s m args below meth c Q H locs ls cx hret hw hl
  have cx : nc_C p s m args c cX8_faultOfForm 1 RX8 G := cx
  have hl : lv_has ls 1 [(0, .ref o)] := hl
  have hx := cx.1
  have hb := cx.2.1
  unfold f_X8_faultOfForm at hf
  refine lv_aload_n hx hb dX8_faultOfForm_0 rfl (lv_at hl 0 rfl) ?_
  refine lv_iconst (v := 0) hx hb dX8_faultOfForm_1 (by decide) ?_
  refine pi_X8_78 cx hw (lModel_is h0) dX8_faultOfForm_2 (fun mi1 H locs emi1 hw => ?_)
  have hf := nc_let_at hf emi1
  refine lv_aload_n hx hb dX8_faultOfForm_5 rfl (lv_at hl 0 rfl) ?_
  obtain ⟨q2, hq2, hf⟩ := nc_bi hf
  refine nc_callVi cx hw lk_X8_98 (c_X8_goesBy l h0 mi1  q2 hq2) (ci := 8) rfl (lModel_is h0) rfl hl.1 rfl (Nat.le_of_ble_eq_true rfl) ⟨rfl, rfl, Nat.le_of_ble_eq_true rfl, Nat.le_of_ble_eq_true rfl⟩ dX8_faultOfForm_6 (fun H locs hw => ?_)
  refine lv_if_ne (tgt := 17) hx hb dX8_faultOfForm_9 (by decide) (fun c3 => ?_) (fun c3 => ?_)
  · have hf := nc_ifn hf c3
    obtain ⟨k4, ek4, hf⟩ := nc_jn_of hf
    have hk4 : ∀ (mi5 : nc_Mem), k4 mi5 = some res → ∀ (H : Heap) (locs : List Loc) (ls : Array Slot), nc_W G K mi5 H locs → lv_has ls 1 [(0, .ref o)] → W p l e rm_X8_faultOfForm s m args below meth c H locs 0 0 Q (F0 m 35 ls []) := by
      intro mi5 hf H locs ls hw hl
      have hf := ((congrFun ek4 mi5)).symm.trans hf
      refine lv_aload_n hx hb dX8_faultOfForm_35 rfl (lv_at hl 0 rfl) ?_
      refine gi_X8_78 cx hw (lModel_is h0) dX8_faultOfForm_36 ?_
      exact nc_rpm hret hf rfl hw dX8_faultOfForm_39
    refine nc_loop_w (P := fun κ : nc_Mem → Option (nc_Mem × Int32) => ∀ (mi6 : nc_Mem), κ mi6 = some res → ∀ (H : Heap) (locs : List Loc) (ls : Array Slot), nc_W G K mi6 H locs → lv_has ls 1 [(0, .ref o)] → W p l e rm_X8_faultOfForm s m args below meth c H locs 0 0 Q (F0 m 17 ls [])) ?_ ?_ 200 _ hf _ _ _ hw (lv_sub hl [0] rfl)
    · intro mi6 hf; exact absurd hf (by intro q; cases q)
    · intro rc7 ihrc7 mi6 hf H locs ls hw hl
      unfold B_X8_faultOfForm_17 at hf
      refine lv_aload_n hx hb dX8_faultOfForm_17 rfl (lv_at hl 0 rfl) ?_
      refine gi_X8_78 cx hw (lModel_is h0) dX8_faultOfForm_18 ?_
      refine lv_aload_n hx hb dX8_faultOfForm_21 rfl (lv_at hl 0 rfl) ?_
      refine gi_X8_75 cx hw (lModel_is h0) dX8_faultOfForm_22 ?_
      refine lv_icmp_ge (tgt := 40) hx hb dX8_faultOfForm_25 (by decide) (fun c8 => ?_) (fun c8 => ?_)
      · have hf := nc_ifp hf c8
        refine lv_bipush (v := (-9)) hx hb dX8_faultOfForm_40 (by decide) ?_
        exact nc_rpm hret hf rfl hw dX8_faultOfForm_42
      · have hf := nc_ifn hf c8
        refine lv_aload_n hx hb dX8_faultOfForm_28 rfl (lv_at hl 0 rfl) ?_
        obtain ⟨q9, hq9, hf⟩ := nc_bi hf
        refine nc_callVi cx hw lk_X8_98 (c_X8_goesBy l h0 mi6  q9 hq9) (ci := 8) rfl (lModel_is h0) rfl hl.1 rfl (Nat.le_of_ble_eq_true rfl) ⟨rfl, rfl, Nat.le_of_ble_eq_true rfl, Nat.le_of_ble_eq_true rfl⟩ dX8_faultOfForm_29 (fun H locs hw => ?_)
        refine lv_if_ne (tgt := 17) hx hb dX8_faultOfForm_32 (by decide) (fun c10 => ?_) (fun c10 => ?_)
        · have hf := nc_ifn hf c10
          exact ihrc7 _ hf _ _ _ hw (lv_sub hl [0] rfl)
        · have hf := nc_ifp hf c10
          exact hk4 _ hf _ _ _ hw (lv_sub hl [0] rfl)
  · have hf := nc_ifp hf c3
    refine lv_aload_n hx hb dX8_faultOfForm_12 rfl (lv_at hl 0 rfl) ?_
    refine gi_X8_78 cx hw (lModel_is h0) dX8_faultOfForm_13 ?_
    exact nc_rpm hret hf rfl hw dX8_faultOfForm_16
abbrev rm_X8_placesNeeded : Room := { frames := 0, cells := 0, slots := 0, locals := 0 }
set_option maxRecDepth 100000 in
set_option maxHeartbeats 4000000 in
theorem c_X8_placesNeeded (l : Launch) {G : nc_G} {K : nc_K} {o : Nat} (h0 : nc_LModel G K o) (mi : nc_Mem)  (res : Int32) (hf : f_X8_placesNeeded mi o = some res) : nc_M l yX8_placesNeeded cX8_placesNeeded 4 (some .int) rm_X8_placesNeeded 0 0 G K K [.ref o] mi mi (some (.int res)) := by
  refine nc_meet_i (by decide) (Nat.le_of_ble_eq_true rfl) ?_
  intro p e s m args below meth c Q H locs ls cx hret hw hl
  have cx : nc_C p s m args c cX8_placesNeeded 4 RX8 G := cx
  have hl : lv_has ls 4 [(0, .ref o)] := hl
  have hx := cx.1
  have hb := cx.2.1
  unfold f_X8_placesNeeded at hf
  refine lv_iconst (v := 1) hx hb dX8_placesNeeded_0 (by decide) ?_
  refine lv_istore_n (lv' := [(1, .int 1), (0, .ref o)]) hx hb dX8_placesNeeded_1 rfl hl (by decide) rfl (fun ls hl => ?_)
  refine lv_iconst (v := 0) hx hb dX8_placesNeeded_2 (by decide) ?_
  refine lv_istore_n (lv' := [(2, .int 0), (1, .int 1), (0, .ref o)]) hx hb dX8_placesNeeded_3 rfl hl (by decide) rfl (fun ls hl => ?_)
  refine nc_loop_w (P := fun κ : Int32 → Int32 → Option (Int32) => ∀ (x1 : Int32) (x2 : Int32), κ x1 x2 = some res → ∀ (H : Heap) (locs : List Loc) (ls : Array Slot), nc_W G K mi H locs → lv_has ls 4 [(0, .ref o), (1, .int x1), (2, .int x2)] → W p l e rm_X8_placesNeeded s m args below meth c H locs 0 0 Q (F0 m 4 ls [])) ?_ ?_ 200 _ _ hf _ _ _ hw (lv_sub hl [2, 1, 0] rfl)
  · intro x1 x2 hf; exact absurd hf (by intro q; cases q)
  · intro rc3 ihrc3 x1 x2 hf H locs ls hw hl
    unfold B_X8_placesNeeded_4 at hf
    refine lv_iload_n hx hb dX8_placesNeeded_4 rfl (lv_at hl 2 rfl) ?_
    refine lv_bipush (v := 7) hx hb dX8_placesNeeded_5 (by decide) ?_
    refine lv_icmp_ge (tgt := 52) hx hb dX8_placesNeeded_7 (by decide) (fun c4 => ?_) (fun c4 => ?_)
    · have hf := nc_ifp hf c4
      refine lv_iconst (v := 0) hx hb dX8_placesNeeded_52 (by decide) ?_
      refine lv_istore_n (lv' := [(2, .int 0), (0, .ref o), (1, .int x1)]) hx hb dX8_placesNeeded_53 rfl hl (by decide) rfl (fun ls hl => ?_)
      refine nc_loop_w (P := fun κ : Int32 → Int32 → Option (Int32) => ∀ (x5 : Int32) (x6 : Int32), κ x5 x6 = some res → ∀ (H : Heap) (locs : List Loc) (ls : Array Slot), nc_W G K mi H locs → lv_has ls 4 [(0, .ref o), (1, .int x5), (2, .int x6)] → W p l e rm_X8_placesNeeded s m args below meth c H locs 0 0 Q (F0 m 54 ls [])) ?_ ?_ 200 _ _ hf _ _ _ hw (lv_sub hl [1, 2, 0] rfl)
      · intro x5 x6 hf; exact absurd hf (by intro q; cases q)
      · intro rc7 ihrc7 x5 x6 hf H locs ls hw hl
        unfold B_X8_placesNeeded_54 at hf
        refine lv_iload_n hx hb dX8_placesNeeded_54 rfl (lv_at hl 2 rfl) ?_
        refine lv_aload_n hx hb dX8_placesNeeded_55 rfl (lv_at hl 0 rfl) ?_
        refine gi_X8_65 cx hw (lModel_is h0) dX8_placesNeeded_56 ?_
        refine lv_icmp_ge (tgt := 120) hx hb dX8_placesNeeded_59 (by decide) (fun c8 => ?_) (fun c8 => ?_)
        · have hf := nc_ifp hf c8
          refine lv_iconst (v := 0) hx hb dX8_placesNeeded_120 (by decide) ?_
          refine lv_istore_n (lv' := [(2, .int 0), (0, .ref o), (1, .int x5)]) hx hb dX8_placesNeeded_121 rfl hl (by decide) rfl (fun ls hl => ?_)
          refine nc_loop_w (P := fun κ : Int32 → Int32 → Option (Int32) => ∀ (x9 : Int32) (x10 : Int32), κ x9 x10 = some res → ∀ (H : Heap) (locs : List Loc) (ls : Array Slot), nc_W G K mi H locs → lv_has ls 4 [(0, .ref o), (1, .int x9), (2, .int x10)] → W p l e rm_X8_placesNeeded s m args below meth c H locs 0 0 Q (F0 m 122 ls [])) ?_ ?_ 200 _ _ hf _ _ _ hw (lv_sub hl [1, 2, 0] rfl)
          · intro x9 x10 hf; exact absurd hf (by intro q; cases q)
          · intro rc11 ihrc11 x9 x10 hf H locs ls hw hl
            unfold B_X8_placesNeeded_122 at hf
            refine lv_iload_n hx hb dX8_placesNeeded_122 rfl (lv_at hl 2 rfl) ?_
            refine lv_aload_n hx hb dX8_placesNeeded_123 rfl (lv_at hl 0 rfl) ?_
            refine gi_X8_68 cx hw (lModel_is h0) dX8_placesNeeded_124 ?_
            refine lv_icmp_ge (tgt := 199) hx hb dX8_placesNeeded_127 (by decide) (fun c12 => ?_) (fun c12 => ?_)
            · have hf := nc_ifp hf c12
              refine lv_iload_n hx hb dX8_placesNeeded_199 rfl (lv_at hl 1 rfl) ?_
              refine lv_iconst (v := 1) hx hb dX8_placesNeeded_200 (by decide) ?_
              refine lv_iadd hx hb dX8_placesNeeded_201 ?_
              exact nc_rpp hret hf rfl hw dX8_placesNeeded_202
            · have hf := nc_ifn hf c12
              refine lv_aload_n hx hb dX8_placesNeeded_130 rfl (lv_at hl 0 rfl) ?_
              refine gr_X8_31 cx hw (lModel_is h0) (lModel_thing h0) ((lModel_thing_L h0)).1 dX8_placesNeeded_131 ?_
              refine lv_iload_n hx hb dX8_placesNeeded_134 rfl (lv_at hl 2 rfl) ?_
              obtain ⟨j13, ej13, ij13, lj13, hf⟩ := nc_ix hf
              refine nc_ald cx hw (by decide) ((lModel_thing_L h0)).1 ij13 ej13 (((lModel_thing_L h0)).2 j13 lj13).1 (((lModel_thing_L h0)).2 j13 lj13).2 dX8_placesNeeded_135 ?_
              refine lv_astore_n (lv' := [(3, .ref (o + 19 + 1 + j13)), (0, .ref o), (1, .int x9), (2, .int x10)]) hx hb dX8_placesNeeded_136 rfl hl (by decide) rfl (fun ls hl => ?_)
              refine lv_aload_n hx hb dX8_placesNeeded_137 rfl (lv_at hl 0 rfl) ?_
              refine lv_iconst (v := 2) hx hb dX8_placesNeeded_138 (by decide) ?_
              refine nc_ild cx hw (((lModel_thing_L h0)).2 j13 lj13).2 (nc_lit (j := 2) rfl (by decide) (by decide)) rfl dX8_placesNeeded_139 ?_
              refine lv_iload_n hx hb dX8_placesNeeded_140 rfl (lv_at hl 2 rfl) ?_
              obtain ⟨k14, ek14, hf⟩ := nc_jn_of hf
              have hk14 : ∀ (v15 : Int32), k14 v15 = some res → ∀ (H : Heap) (locs : List Loc) (ls : Array Slot), nc_W G K mi H locs → lv_has ls 4 [(0, .ref o), (2, .int x10), (3, .ref (o + 19 + 1 + j13))] → W p l e rm_X8_placesNeeded s m args below meth c H locs 0 0 Q (F0 m 151 ls [.int v15]) := by
                intro v15 hf H locs ls hw hl
                have hf := ((congrFun ek14 v15)).symm.trans hf
                refine lv_istore_n (lv' := [(1, .int v15), (0, .ref o), (2, .int x10), (3, .ref (o + 19 + 1 + j13))]) hx hb dX8_placesNeeded_151 rfl hl (by decide) rfl (fun ls hl => ?_)
                refine lv_aload_n hx hb dX8_placesNeeded_152 rfl (lv_at hl 3 rfl) ?_
                refine lv_iconst (v := 3) hx hb dX8_placesNeeded_153 (by decide) ?_
                refine nc_ild cx hw (((lModel_thing_L h0)).2 j13 lj13).2 (nc_lit (j := 3) rfl (by decide) (by decide)) rfl dX8_placesNeeded_154 ?_
                refine lv_iload_n hx hb dX8_placesNeeded_155 rfl (lv_at hl 0 rfl) ?_
                obtain ⟨k16, ek16, hf⟩ := nc_jn_of hf
                have hk16 : ∀ (v17 : Int32), k16 v17 = some res → ∀ (H : Heap) (locs : List Loc) (ls : Array Slot), nc_W G K mi H locs → lv_has ls 4 [(0, .ref o), (2, .int x10), (3, .ref (o + 19 + 1 + j13))] → W p l e rm_X8_placesNeeded s m args below meth c H locs 0 0 Q (F0 m 166 ls [.int v17]) := by
                  intro v17 hf H locs ls hw hl
                  have hf := ((congrFun ek16 v17)).symm.trans hf
                  refine lv_istore_n (lv' := [(1, .int v17), (0, .ref o), (2, .int x10), (3, .ref (o + 19 + 1 + j13))]) hx hb dX8_placesNeeded_166 rfl hl (by decide) rfl (fun ls hl => ?_)
                  refine lv_aload_n hx hb dX8_placesNeeded_167 rfl (lv_at hl 3 rfl) ?_
                  refine lv_bipush (v := 7) hx hb dX8_placesNeeded_168 (by decide) ?_
                  refine nc_ild cx hw (((lModel_thing_L h0)).2 j13 lj13).2 (nc_lit (j := 7) rfl (by decide) (by decide)) rfl dX8_placesNeeded_170 ?_
                  refine lv_bipush (v := 10) hx hb dX8_placesNeeded_171 (by decide) ?_
                  refine lv_icmp_ge (tgt := 191) hx hb dX8_placesNeeded_173 (by decide) (fun c18 => ?_) (fun c18 => ?_)
                  · have hf := nc_ifp hf c18
                    refine lv_iload_n hx hb dX8_placesNeeded_191 rfl (lv_at hl 0 rfl) ?_
                    refine lv_istore_n (lv' := [(1, .int v17), (0, .ref o), (2, .int x10), (3, .ref (o + 19 + 1 + j13))]) hx hb dX8_placesNeeded_192 rfl hl (by decide) rfl (fun ls hl => ?_)
                    obtain ⟨x19, ex19⟩ : ∃ y : Int32, y = x10 + 1 := ⟨_, rfl⟩
                    have hf := nc_let_at hf ex19
                    refine lv_iinc (v := x19) (lv' := [(2, .int x19), (1, .int v17), (0, .ref o), (3, .ref (o + 19 + 1 + j13))]) hx hb dX8_placesNeeded_193 hl (k := 2) rfl (by rw [ex19]; rfl) (by decide) rfl (fun ls hl => ?_)
                    refine lv_goto (tgt := 122) hx hb dX8_placesNeeded_196 (by decide) ?_
                    exact ihrc11 _ _ hf _ _ _ hw (lv_sub hl [2, 1, 0] rfl)
                  · have hf := nc_ifn hf c18
                    refine lv_aload_n hx hb dX8_placesNeeded_176 rfl (lv_at hl 3 rfl) ?_
                    refine lv_bipush (v := 7) hx hb dX8_placesNeeded_177 (by decide) ?_
                    refine nc_ild cx hw (((lModel_thing_L h0)).2 j13 lj13).2 (nc_lit (j := 7) rfl (by decide) (by decide)) rfl dX8_placesNeeded_179 ?_
                    refine lv_iload_n hx hb dX8_placesNeeded_180 rfl (lv_at hl 0 rfl) ?_
                    refine lv_icmp_le (tgt := 191) hx hb dX8_placesNeeded_181 (by decide) (fun c20 => ?_) (fun c20 => ?_)
                    · have hf := nc_ifp hf c20
                      refine lv_iload_n hx hb dX8_placesNeeded_191 rfl (lv_at hl 0 rfl) ?_
                      refine lv_istore_n (lv' := [(1, .int v17), (0, .ref o), (2, .int x10), (3, .ref (o + 19 + 1 + j13))]) hx hb dX8_placesNeeded_192 rfl hl (by decide) rfl (fun ls hl => ?_)
                      obtain ⟨x21, ex21⟩ : ∃ y : Int32, y = x10 + 1 := ⟨_, rfl⟩
                      have hf := nc_let_at hf ex21
                      refine lv_iinc (v := x21) (lv' := [(2, .int x21), (1, .int v17), (0, .ref o), (3, .ref (o + 19 + 1 + j13))]) hx hb dX8_placesNeeded_193 hl (k := 2) rfl (by rw [ex21]; rfl) (by decide) rfl (fun ls hl => ?_)
                      refine lv_goto (tgt := 122) hx hb dX8_placesNeeded_196 (by decide) ?_
                      exact ihrc11 _ _ hf _ _ _ hw (lv_sub hl [2, 1, 0] rfl)
                    · have hf := nc_ifn hf c20
                      refine lv_aload_n hx hb dX8_placesNeeded_184 rfl (lv_at hl 3 rfl) ?_
                      refine lv_bipush (v := 7) hx hb dX8_placesNeeded_185 (by decide) ?_
                      refine nc_ild cx hw (((lModel_thing_L h0)).2 j13 lj13).2 (nc_lit (j := 7) rfl (by decide) (by decide)) rfl dX8_placesNeeded_187 ?_
                      refine lv_goto (tgt := 192) hx hb dX8_placesNeeded_188 (by decide) ?_
                      refine lv_topi (fun x22 ex22 => ?_)
                      have hf := nc_let_at hf ex22
                      refine lv_istore_n (lv' := [(1, .int x22), (0, .ref o), (2, .int x10), (3, .ref (o + 19 + 1 + j13))]) hx hb dX8_placesNeeded_192 rfl hl (by decide) rfl (fun ls hl => ?_)
                      obtain ⟨x23, ex23⟩ : ∃ y : Int32, y = x10 + 1 := ⟨_, rfl⟩
                      have hf := nc_let_at hf ex23
                      refine lv_iinc (v := x23) (lv' := [(2, .int x23), (1, .int x22), (0, .ref o), (3, .ref (o + 19 + 1 + j13))]) hx hb dX8_placesNeeded_193 hl (k := 2) rfl (by rw [ex23]; rfl) (by decide) rfl (fun ls hl => ?_)
                      refine lv_goto (tgt := 122) hx hb dX8_placesNeeded_196 (by decide) ?_
                      exact ihrc11 _ _ hf _ _ _ hw (lv_sub hl [2, 1, 0] rfl)
                refine lv_icmp_le (tgt := 165) hx hb dX8_placesNeeded_156 (by decide) (fun c24 => ?_) (fun c24 => ?_)
                · have hf := nc_ifp hf c24
                  refine lv_iload_n hx hb dX8_placesNeeded_165 rfl (lv_at hl 0 rfl) ?_
                  exact hk16 _ hf _ _ _ hw (lv_sub hl [1, 2, 3] rfl)
                · have hf := nc_ifn hf c24
                  refine lv_aload_n hx hb dX8_placesNeeded_159 rfl (lv_at hl 3 rfl) ?_
                  refine lv_iconst (v := 3) hx hb dX8_placesNeeded_160 (by decide) ?_
                  refine nc_ild cx hw (((lModel_thing_L h0)).2 j13 lj13).2 (nc_lit (j := 3) rfl (by decide) (by decide)) rfl dX8_placesNeeded_161 ?_
                  refine lv_goto (tgt := 166) hx hb dX8_placesNeeded_162 (by decide) ?_
                  exact hk16 _ hf _ _ _ hw (lv_sub hl [1, 2, 3] rfl)
              refine lv_icmp_le (tgt := 150) hx hb dX8_placesNeeded_141 (by decide) (fun c25 => ?_) (fun c25 => ?_)
              · have hf := nc_ifp hf c25
                refine lv_iload_n hx hb dX8_placesNeeded_150 rfl (lv_at hl 2 rfl) ?_
                exact hk14 _ hf _ _ _ hw (lv_sub hl [1, 3, 0] rfl)
              · have hf := nc_ifn hf c25
                refine lv_aload_n hx hb dX8_placesNeeded_144 rfl (lv_at hl 0 rfl) ?_
                refine lv_iconst (v := 2) hx hb dX8_placesNeeded_145 (by decide) ?_
                refine nc_ild cx hw (((lModel_thing_L h0)).2 j13 lj13).2 (nc_lit (j := 2) rfl (by decide) (by decide)) rfl dX8_placesNeeded_146 ?_
                refine lv_goto (tgt := 151) hx hb dX8_placesNeeded_147 (by decide) ?_
                exact hk14 _ hf _ _ _ hw (lv_sub hl [1, 3, 0] rfl)
        · have hf := nc_ifn hf c8
          refine lv_aload_n hx hb dX8_placesNeeded_62 rfl (lv_at hl 0 rfl) ?_
          refine gr_X8_28 cx hw (lModel_is h0) (lModel_person h0) ((lModel_person_L h0)).1 dX8_placesNeeded_63 ?_
          refine lv_iload_n hx hb dX8_placesNeeded_66 rfl (lv_at hl 2 rfl) ?_
          obtain ⟨j26, ej26, ij26, lj26, hf⟩ := nc_ix hf
          refine nc_ald cx hw (by decide) ((lModel_person_L h0)).1 ij26 ej26 (((lModel_person_L h0)).2 j26 lj26).1 (((lModel_person_L h0)).2 j26 lj26).2 dX8_placesNeeded_67 ?_
          refine lv_astore_n (lv' := [(3, .ref (o + 12 + 1 + j26)), (0, .ref o), (1, .int x5), (2, .int x6)]) hx hb dX8_placesNeeded_68 rfl hl (by decide) rfl (fun ls hl => ?_)
          refine lv_aload_n hx hb dX8_placesNeeded_69 rfl (lv_at hl 0 rfl) ?_
          refine lv_iconst (v := 0) hx hb dX8_placesNeeded_70 (by decide) ?_
          refine nc_ild cx hw (((lModel_person_L h0)).2 j26 lj26).2 (nc_lit (j := 0) rfl (by decide) (by decide)) rfl dX8_placesNeeded_71 ?_
          refine lv_iload_n hx hb dX8_placesNeeded_72 rfl (lv_at hl 2 rfl) ?_
          obtain ⟨k27, ek27, hf⟩ := nc_jn_of hf
          have hk27 : ∀ (v28 : Int32), k27 v28 = some res → ∀ (H : Heap) (locs : List Loc) (ls : Array Slot), nc_W G K mi H locs → lv_has ls 4 [(0, .ref o), (2, .int x6), (3, .ref (o + 12 + 1 + j26))] → W p l e rm_X8_placesNeeded s m args below meth c H locs 0 0 Q (F0 m 83 ls [.int v28]) := by
            intro v28 hf H locs ls hw hl
            have hf := ((congrFun ek27 v28)).symm.trans hf
            refine lv_istore_n (lv' := [(1, .int v28), (0, .ref o), (2, .int x6), (3, .ref (o + 12 + 1 + j26))]) hx hb dX8_placesNeeded_83 rfl hl (by decide) rfl (fun ls hl => ?_)
            refine lv_aload_n hx hb dX8_placesNeeded_84 rfl (lv_at hl 3 rfl) ?_
            refine lv_iconst (v := 1) hx hb dX8_placesNeeded_85 (by decide) ?_
            refine nc_ild cx hw (((lModel_person_L h0)).2 j26 lj26).2 (nc_lit (j := 1) rfl (by decide) (by decide)) rfl dX8_placesNeeded_86 ?_
            refine lv_iload_n hx hb dX8_placesNeeded_87 rfl (lv_at hl 0 rfl) ?_
            obtain ⟨k29, ek29, hf⟩ := nc_jn_of hf
            have hk29 : ∀ (v30 : Int32), k29 v30 = some res → ∀ (H : Heap) (locs : List Loc) (ls : Array Slot), nc_W G K mi H locs → lv_has ls 4 [(0, .ref o), (2, .int x6), (3, .ref (o + 12 + 1 + j26))] → W p l e rm_X8_placesNeeded s m args below meth c H locs 0 0 Q (F0 m 98 ls [.int v30]) := by
              intro v30 hf H locs ls hw hl
              have hf := ((congrFun ek29 v30)).symm.trans hf
              refine lv_istore_n (lv' := [(1, .int v30), (0, .ref o), (2, .int x6), (3, .ref (o + 12 + 1 + j26))]) hx hb dX8_placesNeeded_98 rfl hl (by decide) rfl (fun ls hl => ?_)
              refine lv_aload_n hx hb dX8_placesNeeded_99 rfl (lv_at hl 3 rfl) ?_
              refine lv_iconst (v := 5) hx hb dX8_placesNeeded_100 (by decide) ?_
              refine nc_ild cx hw (((lModel_person_L h0)).2 j26 lj26).2 (nc_lit (j := 5) rfl (by decide) (by decide)) rfl dX8_placesNeeded_101 ?_
              refine lv_iload_n hx hb dX8_placesNeeded_102 rfl (lv_at hl 0 rfl) ?_
              refine lv_icmp_le (tgt := 112) hx hb dX8_placesNeeded_103 (by decide) (fun c31 => ?_) (fun c31 => ?_)
              · have hf := nc_ifp hf c31
                refine lv_iload_n hx hb dX8_placesNeeded_112 rfl (lv_at hl 0 rfl) ?_
                refine lv_istore_n (lv' := [(1, .int v30), (0, .ref o), (2, .int x6), (3, .ref (o + 12 + 1 + j26))]) hx hb dX8_placesNeeded_113 rfl hl (by decide) rfl (fun ls hl => ?_)
                obtain ⟨x32, ex32⟩ : ∃ y : Int32, y = x6 + 1 := ⟨_, rfl⟩
                have hf := nc_let_at hf ex32
                refine lv_iinc (v := x32) (lv' := [(2, .int x32), (1, .int v30), (0, .ref o), (3, .ref (o + 12 + 1 + j26))]) hx hb dX8_placesNeeded_114 hl (k := 2) rfl (by rw [ex32]; rfl) (by decide) rfl (fun ls hl => ?_)
                refine lv_goto (tgt := 54) hx hb dX8_placesNeeded_117 (by decide) ?_
                exact ihrc7 _ _ hf _ _ _ hw (lv_sub hl [2, 1, 0] rfl)
              · have hf := nc_ifn hf c31
                refine lv_aload_n hx hb dX8_placesNeeded_106 rfl (lv_at hl 3 rfl) ?_
                refine lv_iconst (v := 5) hx hb dX8_placesNeeded_107 (by decide) ?_
                refine nc_ild cx hw (((lModel_person_L h0)).2 j26 lj26).2 (nc_lit (j := 5) rfl (by decide) (by decide)) rfl dX8_placesNeeded_108 ?_
                refine lv_goto (tgt := 113) hx hb dX8_placesNeeded_109 (by decide) ?_
                refine lv_topi (fun x33 ex33 => ?_)
                have hf := nc_let_at hf ex33
                refine lv_istore_n (lv' := [(1, .int x33), (0, .ref o), (2, .int x6), (3, .ref (o + 12 + 1 + j26))]) hx hb dX8_placesNeeded_113 rfl hl (by decide) rfl (fun ls hl => ?_)
                obtain ⟨x34, ex34⟩ : ∃ y : Int32, y = x6 + 1 := ⟨_, rfl⟩
                have hf := nc_let_at hf ex34
                refine lv_iinc (v := x34) (lv' := [(2, .int x34), (1, .int x33), (0, .ref o), (3, .ref (o + 12 + 1 + j26))]) hx hb dX8_placesNeeded_114 hl (k := 2) rfl (by rw [ex34]; rfl) (by decide) rfl (fun ls hl => ?_)
                refine lv_goto (tgt := 54) hx hb dX8_placesNeeded_117 (by decide) ?_
                exact ihrc7 _ _ hf _ _ _ hw (lv_sub hl [2, 1, 0] rfl)
            refine lv_icmp_le (tgt := 97) hx hb dX8_placesNeeded_88 (by decide) (fun c35 => ?_) (fun c35 => ?_)
            · have hf := nc_ifp hf c35
              refine lv_iload_n hx hb dX8_placesNeeded_97 rfl (lv_at hl 0 rfl) ?_
              exact hk29 _ hf _ _ _ hw (lv_sub hl [1, 2, 3] rfl)
            · have hf := nc_ifn hf c35
              refine lv_aload_n hx hb dX8_placesNeeded_91 rfl (lv_at hl 3 rfl) ?_
              refine lv_iconst (v := 1) hx hb dX8_placesNeeded_92 (by decide) ?_
              refine nc_ild cx hw (((lModel_person_L h0)).2 j26 lj26).2 (nc_lit (j := 1) rfl (by decide) (by decide)) rfl dX8_placesNeeded_93 ?_
              refine lv_goto (tgt := 98) hx hb dX8_placesNeeded_94 (by decide) ?_
              exact hk29 _ hf _ _ _ hw (lv_sub hl [1, 2, 3] rfl)
          refine lv_icmp_le (tgt := 82) hx hb dX8_placesNeeded_73 (by decide) (fun c36 => ?_) (fun c36 => ?_)
          · have hf := nc_ifp hf c36
            refine lv_iload_n hx hb dX8_placesNeeded_82 rfl (lv_at hl 2 rfl) ?_
            exact hk27 _ hf _ _ _ hw (lv_sub hl [1, 3, 0] rfl)
          · have hf := nc_ifn hf c36
            refine lv_aload_n hx hb dX8_placesNeeded_76 rfl (lv_at hl 0 rfl) ?_
            refine lv_iconst (v := 0) hx hb dX8_placesNeeded_77 (by decide) ?_
            refine nc_ild cx hw (((lModel_person_L h0)).2 j26 lj26).2 (nc_lit (j := 0) rfl (by decide) (by decide)) rfl dX8_placesNeeded_78 ?_
            refine lv_goto (tgt := 83) hx hb dX8_placesNeeded_79 (by decide) ?_
            exact hk27 _ hf _ _ _ hw (lv_sub hl [1, 3, 0] rfl)
    · have hf := nc_ifn hf c4
      refine lv_iconst (v := 0) hx hb dX8_placesNeeded_10 (by decide) ?_
      refine lv_istore_n (lv' := [(3, .int 0), (0, .ref o), (1, .int x1), (2, .int x2)]) hx hb dX8_placesNeeded_11 rfl hl (by decide) rfl (fun ls hl => ?_)
      refine nc_loop_w (P := fun κ : Int32 → Int32 → Option (Int32) => ∀ (x37 : Int32) (x38 : Int32), κ x37 x38 = some res → ∀ (H : Heap) (locs : List Loc) (ls : Array Slot), nc_W G K mi H locs → lv_has ls 4 [(0, .ref o), (1, .int x37), (2, .int x2), (3, .int x38)] → W p l e rm_X8_placesNeeded s m args below meth c H locs 0 0 Q (F0 m 12 ls [])) ?_ ?_ 200 _ _ hf _ _ _ hw (lv_sub hl [1, 2, 3, 0] rfl)
      · intro x37 x38 hf; exact absurd hf (by intro q; cases q)
      · intro rc39 ihrc39 x37 x38 hf H locs ls hw hl
        unfold B_X8_placesNeeded_12 at hf
        refine lv_iload_n hx hb dX8_placesNeeded_12 rfl (lv_at hl 3 rfl) ?_
        refine lv_bipush (v := 7) hx hb dX8_placesNeeded_13 (by decide) ?_
        refine lv_icmp_ge (tgt := 46) hx hb dX8_placesNeeded_15 (by decide) (fun c40 => ?_) (fun c40 => ?_)
        · have hf := nc_ifp hf c40
          obtain ⟨x41, ex41⟩ : ∃ y : Int32, y = x2 + 1 := ⟨_, rfl⟩
          have hf := nc_let_at hf ex41
          refine lv_iinc (v := x41) (lv' := [(2, .int x41), (0, .ref o), (1, .int x37), (3, .int x38)]) hx hb dX8_placesNeeded_46 hl (k := 2) rfl (by rw [ex41]; rfl) (by decide) rfl (fun ls hl => ?_)
          refine lv_goto (tgt := 4) hx hb dX8_placesNeeded_49 (by decide) ?_
          exact ihrc3 _ _ hf _ _ _ hw (lv_sub hl [1, 2, 0] rfl)
        · have hf := nc_ifn hf c40
          refine lv_aload_n hx hb dX8_placesNeeded_18 rfl (lv_at hl 0 rfl) ?_
          refine gr_X8_25 cx hw (lModel_is h0) (lModel_way h0) ((lModel_way_L h0)).1 dX8_placesNeeded_19 ?_
          refine lv_iload_n hx hb dX8_placesNeeded_22 rfl (lv_at hl 2 rfl) ?_
          obtain ⟨j42, ej42, ij42, lj42, hf⟩ := nc_ix hf
          refine nc_ald cx hw (by decide) ((lModel_way_L h0)).1 ij42 ej42 (((lModel_way_L h0)).2 j42 lj42).1 (((lModel_way_L h0)).2 j42 lj42).2 dX8_placesNeeded_23 ?_
          refine lv_iload_n hx hb dX8_placesNeeded_24 rfl (lv_at hl 3 rfl) ?_
          obtain ⟨j43, ej43, ij43, lj43, hf⟩ := nc_ix hf
          refine nc_ild cx hw (((lModel_way_L h0)).2 j42 lj42).2 ij43 ej43 dX8_placesNeeded_25 ?_
          refine lv_if_le (tgt := 38) hx hb dX8_placesNeeded_26 (by decide) (fun c44 => ?_) (fun c44 => ?_)
          · have hf := nc_ifp hf c44
            refine lv_iload_n hx hb dX8_placesNeeded_38 rfl (lv_at hl 1 rfl) ?_
            refine lv_istore_n (lv' := [(1, .int x37), (0, .ref o), (2, .int x2), (3, .int x38)]) hx hb dX8_placesNeeded_39 rfl hl (by decide) rfl (fun ls hl => ?_)
            obtain ⟨x45, ex45⟩ : ∃ y : Int32, y = x38 + 1 := ⟨_, rfl⟩
            have hf := nc_let_at hf ex45
            refine lv_iinc (v := x45) (lv' := [(3, .int x45), (1, .int x37), (0, .ref o), (2, .int x2)]) hx hb dX8_placesNeeded_40 hl (k := 3) rfl (by rw [ex45]; rfl) (by decide) rfl (fun ls hl => ?_)
            refine lv_goto (tgt := 12) hx hb dX8_placesNeeded_43 (by decide) ?_
            exact ihrc39 _ _ hf _ _ _ hw (lv_sub hl [2, 1, 3, 0] rfl)
          · have hf := nc_ifn hf c44
            refine lv_iload_n hx hb dX8_placesNeeded_29 rfl (lv_at hl 2 rfl) ?_
            refine lv_iload_n hx hb dX8_placesNeeded_30 rfl (lv_at hl 1 rfl) ?_
            refine lv_icmp_le (tgt := 38) hx hb dX8_placesNeeded_31 (by decide) (fun c46 => ?_) (fun c46 => ?_)
            · have hf := nc_ifp hf c46
              refine lv_iload_n hx hb dX8_placesNeeded_38 rfl (lv_at hl 1 rfl) ?_
              refine lv_istore_n (lv' := [(1, .int x37), (0, .ref o), (2, .int x2), (3, .int x38)]) hx hb dX8_placesNeeded_39 rfl hl (by decide) rfl (fun ls hl => ?_)
              obtain ⟨x47, ex47⟩ : ∃ y : Int32, y = x38 + 1 := ⟨_, rfl⟩
              have hf := nc_let_at hf ex47
              refine lv_iinc (v := x47) (lv' := [(3, .int x47), (1, .int x37), (0, .ref o), (2, .int x2)]) hx hb dX8_placesNeeded_40 hl (k := 3) rfl (by rw [ex47]; rfl) (by decide) rfl (fun ls hl => ?_)
              refine lv_goto (tgt := 12) hx hb dX8_placesNeeded_43 (by decide) ?_
              exact ihrc39 _ _ hf _ _ _ hw (lv_sub hl [2, 1, 3, 0] rfl)
            · have hf := nc_ifn hf c46
              refine lv_iload_n hx hb dX8_placesNeeded_34 rfl (lv_at hl 2 rfl) ?_
              refine lv_goto (tgt := 39) hx hb dX8_placesNeeded_35 (by decide) ?_
              refine lv_istore_n (lv' := [(1, .int x2), (0, .ref o), (2, .int x2), (3, .int x38)]) hx hb dX8_placesNeeded_39 rfl hl (by decide) rfl (fun ls hl => ?_)
              obtain ⟨x48, ex48⟩ : ∃ y : Int32, y = x38 + 1 := ⟨_, rfl⟩
              have hf := nc_let_at hf ex48
              refine lv_iinc (v := x48) (lv' := [(3, .int x48), (1, .int x2), (0, .ref o), (2, .int x2)]) hx hb dX8_placesNeeded_40 hl (k := 3) rfl (by rw [ex48]; rfl) (by decide) rfl (fun ls hl => ?_)
              refine lv_goto (tgt := 12) hx hb dX8_placesNeeded_43 (by decide) ?_
              exact ihrc39 _ _ hf _ _ _ hw (lv_sub hl [2, 1, 3, 0] rfl)
abbrev rm_X8_placesCome : Room := { frames := 1, cells := 0, slots := 0, locals := 23 }
set_option maxRecDepth 100000 in
set_option maxHeartbeats 4000000 in
theorem c_X8_placesCome (l : Launch) {G : nc_G} {K : nc_K} {o : Nat} (h0 : nc_LModel G K o) (mi : nc_Mem)  (res : nc_Mem × Int32) (hf : f_X8_placesCome mi o = some res) : nc_M l yX8_placesCome cX8_placesCome 1 (some .boolean) rm_X8_placesCome 0 0 G K K [.ref o] mi res.1 (some (.int res.2)) := by
  refine nc_meet_i (by decide) (Nat.le_of_ble_eq_true rfl) ?_
  intro p e s m args below meth c Q H locs ls cx hret hw hl
  have cx : nc_C p s m args c cX8_placesCome 1 RX8 G := cx
  have hl : lv_has ls 1 [(0, .ref o)] := hl
  have hx := cx.1
  have hb := cx.2.1
  unfold f_X8_placesCome at hf
  refine lv_aload_n hx hb dX8_placesCome_0 rfl (lv_at hl 0 rfl) ?_
  refine gr_X8_34 cx hw (lModel_is h0) (lModel_said h0) (lModel_said_L h0) dX8_placesCome_1 ?_
  refine lv_iconst (v := 0) hx hb dX8_placesCome_4 (by decide) ?_
  refine nc_ild cx hw (lModel_said_L h0) (nc_lit (j := 0) rfl (by decide) (by decide)) rfl dX8_placesCome_5 ?_
  refine lv_aload_n hx hb dX8_placesCome_6 rfl (lv_at hl 0 rfl) ?_
  obtain ⟨q1, hq1, hf⟩ := nc_bi hf
  refine nc_callVi cx hw lk_X8_101 (c_X8_placesNeeded l h0 mi  q1 hq1) (ci := 8) rfl (lModel_is h0) rfl hl.1 rfl (Nat.le_of_ble_eq_true rfl) ⟨rfl, rfl, Nat.le_of_ble_eq_true rfl, Nat.le_of_ble_eq_true rfl⟩ dX8_placesCome_7 (fun H locs hw => ?_)
  refine lv_bipush (v := 7) hx hb dX8_placesCome_10 (by decide) ?_
  refine nc_callSi cx hw lk_X8_61 (c_X8_in l  mi (mi (o + 26) 0) q1 7 _ rfl) rfl hl.1 rfl (Nat.le_of_ble_eq_true rfl) ⟨rfl, rfl, Nat.le_of_ble_eq_true rfl, Nat.le_of_ble_eq_true rfl⟩ dX8_placesCome_12 (fun H locs hw => ?_)
  refine lv_if_ne (tgt := 20) hx hb dX8_placesCome_15 (by decide) (fun c2 => ?_) (fun c2 => ?_)
  · have hf := nc_ifn hf c2
    refine lv_aload_n hx hb dX8_placesCome_20 rfl (lv_at hl 0 rfl) ?_
    refine lv_aload_n hx hb dX8_placesCome_21 rfl (lv_at hl 0 rfl) ?_
    refine gr_X8_34 cx hw (lModel_is h0) (lModel_said h0) (lModel_said_L h0) dX8_placesCome_22 ?_
    refine lv_iconst (v := 0) hx hb dX8_placesCome_25 (by decide) ?_
    refine nc_ild cx hw (lModel_said_L h0) (nc_lit (j := 0) rfl (by decide) (by decide)) rfl dX8_placesCome_26 ?_
    refine pi_X8_19 cx hw (lModel_is h0) dX8_placesCome_27 (fun mi3 H locs emi3 hw => ?_)
    have hf := nc_let_at hf emi3
    refine lv_iconst (v := 1) hx hb dX8_placesCome_30 (by decide) ?_
    exact nc_rpm hret hf rfl hw dX8_placesCome_31
  · have hf := nc_ifp hf c2
    refine lv_iconst (v := 0) hx hb dX8_placesCome_18 (by decide) ?_
    exact nc_rpm hret hf rfl hw dX8_placesCome_19
abbrev rm_X8_wayComes : Room := { frames := 2, cells := 0, slots := 0, locals := 43 }
set_option maxRecDepth 100000 in
set_option maxHeartbeats 4000000 in
theorem c_X8_wayComes (l : Launch) {G : nc_G} {K : nc_K} {o : Nat} (h0 : nc_LModel G K o) (mi : nc_Mem)  (res : nc_Mem × Int32) (hf : f_X8_wayComes mi o = some res) : nc_M l yX8_wayComes cX8_wayComes 1 (some .boolean) rm_X8_wayComes 0 0 G K K [.ref o] mi res.1 (some (.int res.2)) := by
  refine nc_meet_i (by decide) (Nat.le_of_ble_eq_true rfl) ?_
  intro p e s m args below meth c Q H locs ls cx hret hw hl
  have cx : nc_C p s m args c cX8_wayComes 1 RX8 G := cx
  have hl : lv_has ls 1 [(0, .ref o)] := hl
  have hx := cx.1
  have hb := cx.2.1
  unfold f_X8_wayComes at hf
  refine lv_aload_n hx hb dX8_wayComes_0 rfl (lv_at hl 0 rfl) ?_
  refine lv_aload_n hx hb dX8_wayComes_1 rfl (lv_at hl 0 rfl) ?_
  refine gr_X8_34 cx hw (lModel_is h0) (lModel_said h0) (lModel_said_L h0) dX8_wayComes_2 ?_
  refine lv_iconst (v := 0) hx hb dX8_wayComes_5 (by decide) ?_
  refine nc_ild cx hw (lModel_said_L h0) (nc_lit (j := 0) rfl (by decide) (by decide)) rfl dX8_wayComes_6 ?_
  obtain ⟨q1, hq1, hf⟩ := nc_bi hf
  refine nc_callVi cx hw lk_X8_105 (c_X8_isPlace l h0 mi (mi (o + 26) 0) q1 hq1) (ci := 8) rfl (lModel_is h0) rfl hl.1 rfl (Nat.le_of_ble_eq_true rfl) ⟨rfl, rfl, Nat.le_of_ble_eq_true rfl, Nat.le_of_ble_eq_true rfl⟩ dX8_wayComes_7 (fun H locs hw => ?_)
  refine lv_if_eq (tgt := 56) hx hb dX8_wayComes_10 (by decide) (fun c2 => ?_) (fun c2 => ?_)
  · have hf := nc_ifp hf c2
    refine lv_iconst (v := 0) hx hb dX8_wayComes_56 (by decide) ?_
    exact nc_rpm hret hf rfl hw dX8_wayComes_57
  · have hf := nc_ifn hf c2
    refine lv_aload_n hx hb dX8_wayComes_13 rfl (lv_at hl 0 rfl) ?_
    refine lv_aload_n hx hb dX8_wayComes_14 rfl (lv_at hl 0 rfl) ?_
    refine gr_X8_34 cx hw (lModel_is h0) (lModel_said h0) (lModel_said_L h0) dX8_wayComes_15 ?_
    refine lv_iconst (v := 1) hx hb dX8_wayComes_18 (by decide) ?_
    refine nc_ild cx hw (lModel_said_L h0) (nc_lit (j := 1) rfl (by decide) (by decide)) rfl dX8_wayComes_19 ?_
    obtain ⟨q3, hq3, hf⟩ := nc_bi hf
    refine nc_callVi cx hw lk_X8_105 (c_X8_isPlace l h0 mi (mi (o + 26) 1) q3 hq3) (ci := 8) rfl (lModel_is h0) rfl hl.1 rfl (Nat.le_of_ble_eq_true rfl) ⟨rfl, rfl, Nat.le_of_ble_eq_true rfl, Nat.le_of_ble_eq_true rfl⟩ dX8_wayComes_20 (fun H locs hw => ?_)
    refine lv_if_eq (tgt := 56) hx hb dX8_wayComes_23 (by decide) (fun c4 => ?_) (fun c4 => ?_)
    · have hf := nc_ifp hf c4
      refine lv_iconst (v := 0) hx hb dX8_wayComes_56 (by decide) ?_
      exact nc_rpm hret hf rfl hw dX8_wayComes_57
    · have hf := nc_ifn hf c4
      refine lv_aload_n hx hb dX8_wayComes_26 rfl (lv_at hl 0 rfl) ?_
      refine gr_X8_34 cx hw (lModel_is h0) (lModel_said h0) (lModel_said_L h0) dX8_wayComes_27 ?_
      refine lv_iconst (v := 0) hx hb dX8_wayComes_30 (by decide) ?_
      refine nc_ild cx hw (lModel_said_L h0) (nc_lit (j := 0) rfl (by decide) (by decide)) rfl dX8_wayComes_31 ?_
      refine lv_aload_n hx hb dX8_wayComes_32 rfl (lv_at hl 0 rfl) ?_
      refine gr_X8_34 cx hw (lModel_is h0) (lModel_said h0) (lModel_said_L h0) dX8_wayComes_33 ?_
      refine lv_iconst (v := 1) hx hb dX8_wayComes_36 (by decide) ?_
      refine nc_ild cx hw (lModel_said_L h0) (nc_lit (j := 1) rfl (by decide) (by decide)) rfl dX8_wayComes_37 ?_
      refine lv_icmp_eq (tgt := 56) hx hb dX8_wayComes_38 (by decide) (fun c5 => ?_) (fun c5 => ?_)
      · have hf := nc_ifp hf c5
        refine lv_iconst (v := 0) hx hb dX8_wayComes_56 (by decide) ?_
        exact nc_rpm hret hf rfl hw dX8_wayComes_57
      · have hf := nc_ifn hf c5
        refine lv_aload_n hx hb dX8_wayComes_41 rfl (lv_at hl 0 rfl) ?_
        refine gr_X8_34 cx hw (lModel_is h0) (lModel_said h0) (lModel_said_L h0) dX8_wayComes_42 ?_
        refine lv_iconst (v := 2) hx hb dX8_wayComes_45 (by decide) ?_
        refine nc_ild cx hw (lModel_said_L h0) (nc_lit (j := 2) rfl (by decide) (by decide)) rfl dX8_wayComes_46 ?_
        refine lv_iconst (v := 1) hx hb dX8_wayComes_47 (by decide) ?_
        refine lv_bipush (v := 60) hx hb dX8_wayComes_48 (by decide) ?_
        refine nc_callSi cx hw lk_X8_61 (c_X8_in l  mi (mi (o + 26) 2) 1 60 _ rfl) rfl hl.1 rfl (Nat.le_of_ble_eq_true rfl) ⟨rfl, rfl, Nat.le_of_ble_eq_true rfl, Nat.le_of_ble_eq_true rfl⟩ dX8_wayComes_50 (fun H locs hw => ?_)
        refine lv_if_ne (tgt := 58) hx hb dX8_wayComes_53 (by decide) (fun c6 => ?_) (fun c6 => ?_)
        · have hf := nc_ifn hf c6
          refine lv_aload_n hx hb dX8_wayComes_58 rfl (lv_at hl 0 rfl) ?_
          refine gr_X8_25 cx hw (lModel_is h0) (lModel_way h0) ((lModel_way_L h0)).1 dX8_wayComes_59 ?_
          refine lv_aload_n hx hb dX8_wayComes_62 rfl (lv_at hl 0 rfl) ?_
          refine gr_X8_34 cx hw (lModel_is h0) (lModel_said h0) (lModel_said_L h0) dX8_wayComes_63 ?_
          refine lv_iconst (v := 0) hx hb dX8_wayComes_66 (by decide) ?_
          refine nc_ild cx hw (lModel_said_L h0) (nc_lit (j := 0) rfl (by decide) (by decide)) rfl dX8_wayComes_67 ?_
          obtain ⟨j7, ej7, ij7, lj7, hf⟩ := nc_ix hf
          refine nc_ald cx hw (by decide) ((lModel_way_L h0)).1 ij7 ej7 (((lModel_way_L h0)).2 j7 lj7).1 (((lModel_way_L h0)).2 j7 lj7).2 dX8_wayComes_68 ?_
          refine lv_aload_n hx hb dX8_wayComes_69 rfl (lv_at hl 0 rfl) ?_
          refine gr_X8_34 cx hw (lModel_is h0) (lModel_said h0) (lModel_said_L h0) dX8_wayComes_70 ?_
          refine lv_iconst (v := 1) hx hb dX8_wayComes_73 (by decide) ?_
          refine nc_ild cx hw (lModel_said_L h0) (nc_lit (j := 1) rfl (by decide) (by decide)) rfl dX8_wayComes_74 ?_
          refine lv_aload_n hx hb dX8_wayComes_75 rfl (lv_at hl 0 rfl) ?_
          refine gr_X8_34 cx hw (lModel_is h0) (lModel_said h0) (lModel_said_L h0) dX8_wayComes_76 ?_
          refine lv_iconst (v := 2) hx hb dX8_wayComes_79 (by decide) ?_
          refine nc_ild cx hw (lModel_said_L h0) (nc_lit (j := 2) rfl (by decide) (by decide)) rfl dX8_wayComes_80 ?_
          obtain ⟨j8, ej8, ij8, lj8, hf⟩ := nc_ix hf
          refine nc_ist cx hw (((lModel_way_L h0)).2 j7 lj7).2 ij8 ej8 dX8_wayComes_81 (fun mi9 H locs emi9 hw => ?_)
          have hf := nc_let_at hf emi9
          refine lv_aload_n hx hb dX8_wayComes_82 rfl (lv_at hl 0 rfl) ?_
          refine gr_X8_25 cx hw (lModel_is h0) (lModel_way h0) ((lModel_way_L h0)).1 dX8_wayComes_83 ?_
          refine lv_aload_n hx hb dX8_wayComes_86 rfl (lv_at hl 0 rfl) ?_
          refine gr_X8_34 cx hw (lModel_is h0) (lModel_said h0) (lModel_said_L h0) dX8_wayComes_87 ?_
          refine lv_iconst (v := 1) hx hb dX8_wayComes_90 (by decide) ?_
          refine nc_ild cx hw (lModel_said_L h0) (nc_lit (j := 1) rfl (by decide) (by decide)) rfl dX8_wayComes_91 ?_
          obtain ⟨j10, ej10, ij10, lj10, hf⟩ := nc_ix hf
          refine nc_ald cx hw (by decide) ((lModel_way_L h0)).1 ij10 ej10 (((lModel_way_L h0)).2 j10 lj10).1 (((lModel_way_L h0)).2 j10 lj10).2 dX8_wayComes_92 ?_
          refine lv_aload_n hx hb dX8_wayComes_93 rfl (lv_at hl 0 rfl) ?_
          refine gr_X8_34 cx hw (lModel_is h0) (lModel_said h0) (lModel_said_L h0) dX8_wayComes_94 ?_
          refine lv_iconst (v := 0) hx hb dX8_wayComes_97 (by decide) ?_
          refine nc_ild cx hw (lModel_said_L h0) (nc_lit (j := 0) rfl (by decide) (by decide)) rfl dX8_wayComes_98 ?_
          refine lv_aload_n hx hb dX8_wayComes_99 rfl (lv_at hl 0 rfl) ?_
          refine gr_X8_34 cx hw (lModel_is h0) (lModel_said h0) (lModel_said_L h0) dX8_wayComes_100 ?_
          refine lv_iconst (v := 2) hx hb dX8_wayComes_103 (by decide) ?_
          refine nc_ild cx hw (lModel_said_L h0) (nc_lit (j := 2) rfl (by decide) (by decide)) rfl dX8_wayComes_104 ?_
          obtain ⟨j11, ej11, ij11, lj11, hf⟩ := nc_ix hf
          refine nc_ist cx hw (((lModel_way_L h0)).2 j10 lj10).2 ij11 ej11 dX8_wayComes_105 (fun mi12 H locs emi12 hw => ?_)
          have hf := nc_let_at hf emi12
          refine lv_iconst (v := 1) hx hb dX8_wayComes_106 (by decide) ?_
          exact nc_rpm hret hf rfl hw dX8_wayComes_107
        · have hf := nc_ifp hf c6
          refine lv_iconst (v := 0) hx hb dX8_wayComes_56 (by decide) ?_
          exact nc_rpm hret hf rfl hw dX8_wayComes_57
abbrev rm_X8_personComes : Room := { frames := 2, cells := 0, slots := 0, locals := 43 }
set_option maxRecDepth 100000 in
set_option maxHeartbeats 4000000 in
theorem c_X8_personComes (l : Launch) {G : nc_G} {K : nc_K} {o : Nat} (h0 : nc_LModel G K o) (mi : nc_Mem)  (res : nc_Mem × Int32) (hf : f_X8_personComes mi o = some res) : nc_M l yX8_personComes cX8_personComes 3 (some .boolean) rm_X8_personComes 0 0 G K K [.ref o] mi res.1 (some (.int res.2)) := by
  refine nc_meet_i (by decide) (Nat.le_of_ble_eq_true rfl) ?_
  intro p e s m args below meth c Q H locs ls cx hret hw hl
  have cx : nc_C p s m args c cX8_personComes 3 RX8 G := cx
  have hl : lv_has ls 3 [(0, .ref o)] := hl
  have hx := cx.1
  have hb := cx.2.1
  unfold f_X8_personComes at hf
  refine lv_aload_n hx hb dX8_personComes_0 rfl (lv_at hl 0 rfl) ?_
  refine lv_aload_n hx hb dX8_personComes_1 rfl (lv_at hl 0 rfl) ?_
  refine gr_X8_34 cx hw (lModel_is h0) (lModel_said h0) (lModel_said_L h0) dX8_personComes_2 ?_
  refine lv_iconst (v := 0) hx hb dX8_personComes_5 (by decide) ?_
  refine nc_ild cx hw (lModel_said_L h0) (nc_lit (j := 0) rfl (by decide) (by decide)) rfl dX8_personComes_6 ?_
  obtain ⟨q1, hq1, hf⟩ := nc_bi hf
  refine nc_callVi cx hw lk_X8_105 (c_X8_isPlace l h0 mi (mi (o + 26) 0) q1 hq1) (ci := 8) rfl (lModel_is h0) rfl hl.1 rfl (Nat.le_of_ble_eq_true rfl) ⟨rfl, rfl, Nat.le_of_ble_eq_true rfl, Nat.le_of_ble_eq_true rfl⟩ dX8_personComes_7 (fun H locs hw => ?_)
  refine lv_if_eq (tgt := 47) hx hb dX8_personComes_10 (by decide) (fun c2 => ?_) (fun c2 => ?_)
  · have hf := nc_ifp hf c2
    refine lv_iconst (v := 0) hx hb dX8_personComes_47 (by decide) ?_
    exact nc_rpm hret hf rfl hw dX8_personComes_48
  · have hf := nc_ifn hf c2
    refine lv_aload_n hx hb dX8_personComes_13 rfl (lv_at hl 0 rfl) ?_
    refine lv_aload_n hx hb dX8_personComes_14 rfl (lv_at hl 0 rfl) ?_
    refine gr_X8_34 cx hw (lModel_is h0) (lModel_said h0) (lModel_said_L h0) dX8_personComes_15 ?_
    refine lv_iconst (v := 1) hx hb dX8_personComes_18 (by decide) ?_
    refine nc_ild cx hw (lModel_said_L h0) (nc_lit (j := 1) rfl (by decide) (by decide)) rfl dX8_personComes_19 ?_
    obtain ⟨q3, hq3, hf⟩ := nc_bi hf
    refine nc_callVi cx hw lk_X8_105 (c_X8_isPlace l h0 mi (mi (o + 26) 1) q3 hq3) (ci := 8) rfl (lModel_is h0) rfl hl.1 rfl (Nat.le_of_ble_eq_true rfl) ⟨rfl, rfl, Nat.le_of_ble_eq_true rfl, Nat.le_of_ble_eq_true rfl⟩ dX8_personComes_20 (fun H locs hw => ?_)
    refine lv_if_eq (tgt := 47) hx hb dX8_personComes_23 (by decide) (fun c4 => ?_) (fun c4 => ?_)
    · have hf := nc_ifp hf c4
      refine lv_iconst (v := 0) hx hb dX8_personComes_47 (by decide) ?_
      exact nc_rpm hret hf rfl hw dX8_personComes_48
    · have hf := nc_ifn hf c4
      refine lv_aload_n hx hb dX8_personComes_26 rfl (lv_at hl 0 rfl) ?_
      refine gr_X8_34 cx hw (lModel_is h0) (lModel_said h0) (lModel_said_L h0) dX8_personComes_27 ?_
      refine lv_iconst (v := 2) hx hb dX8_personComes_30 (by decide) ?_
      refine nc_ild cx hw (lModel_said_L h0) (nc_lit (j := 2) rfl (by decide) (by decide)) rfl dX8_personComes_31 ?_
      refine lv_sipush (v := 720) hx hb dX8_personComes_32 (by decide) ?_
      refine lv_icmp_gt (tgt := 47) hx hb dX8_personComes_35 (by decide) (fun c5 => ?_) (fun c5 => ?_)
      · have hf := nc_ifp hf c5
        refine lv_iconst (v := 0) hx hb dX8_personComes_47 (by decide) ?_
        exact nc_rpm hret hf rfl hw dX8_personComes_48
      · have hf := nc_ifn hf c5
        refine lv_aload_n hx hb dX8_personComes_38 rfl (lv_at hl 0 rfl) ?_
        refine gi_X8_65 cx hw (lModel_is h0) dX8_personComes_39 ?_
        refine lv_bipush (v := 6) hx hb dX8_personComes_42 (by decide) ?_
        refine lv_icmp_ne (tgt := 49) hx hb dX8_personComes_44 (by decide) (fun c6 => ?_) (fun c6 => ?_)
        · have hf := nc_ifn hf c6
          refine lv_aload_n hx hb dX8_personComes_49 rfl (lv_at hl 0 rfl) ?_
          refine gr_X8_28 cx hw (lModel_is h0) (lModel_person h0) ((lModel_person_L h0)).1 dX8_personComes_50 ?_
          refine lv_aload_n hx hb dX8_personComes_53 rfl (lv_at hl 0 rfl) ?_
          refine lv_dup hx hb dX8_personComes_54 rfl ?_
          refine gi_X8_65 cx hw (lModel_is h0) dX8_personComes_55 ?_
          refine lv_dup_x1 hx hb dX8_personComes_58 rfl rfl ?_
          refine lv_iconst (v := 1) hx hb dX8_personComes_59 (by decide) ?_
          refine lv_iadd hx hb dX8_personComes_60 ?_
          refine pi_X8_65 cx hw (lModel_is h0) dX8_personComes_61 (fun mi7 H locs emi7 hw => ?_)
          have hf := nc_let_at hf emi7
          obtain ⟨j8, ej8, ij8, lj8, hf⟩ := nc_ix hf
          refine nc_ald cx hw (by decide) ((lModel_person_L h0)).1 ij8 ej8 (((lModel_person_L h0)).2 j8 lj8).1 (((lModel_person_L h0)).2 j8 lj8).2 dX8_personComes_64 ?_
          refine lv_astore_n (lv' := [(1, .ref (o + 12 + 1 + j8)), (0, .ref o)]) hx hb dX8_personComes_65 rfl hl (by decide) rfl (fun ls hl => ?_)
          refine lv_iconst (v := 0) hx hb dX8_personComes_66 (by decide) ?_
          refine lv_istore_n (lv' := [(2, .int 0), (1, .ref (o + 12 + 1 + j8)), (0, .ref o)]) hx hb dX8_personComes_67 rfl hl (by decide) rfl (fun ls hl => ?_)
          obtain ⟨k9, ek9, hf⟩ := nc_jn_of hf
          have hk9 : ∀ (mi10 : nc_Mem), k9 mi10 = some res → ∀ (H : Heap) (locs : List Loc) (ls : Array Slot), nc_W G K mi10 H locs → lv_has ls 3 [(1, .ref (o + 12 + 1 + j8))] → W p l e rm_X8_personComes s m args below meth c H locs 0 0 Q (F0 m 88 ls []) := by
            intro mi10 hf H locs ls hw hl
            have hf := ((congrFun ek9 mi10)).symm.trans hf
            refine lv_aload_n hx hb dX8_personComes_88 rfl (lv_at hl 0 rfl) ?_
            refine lv_iconst (v := 5) hx hb dX8_personComes_89 (by decide) ?_
            refine lv_aload_n hx hb dX8_personComes_90 rfl (lv_at hl 0 rfl) ?_
            refine lv_iconst (v := 0) hx hb dX8_personComes_91 (by decide) ?_
            refine nc_ild cx hw (((lModel_person_L h0)).2 j8 lj8).2 (nc_lit (j := 0) rfl (by decide) (by decide)) rfl dX8_personComes_92 ?_
            refine nc_ist cx hw (((lModel_person_L h0)).2 j8 lj8).2 (nc_lit (j := 5) rfl (by decide) (by decide)) rfl dX8_personComes_93 (fun mi11 H locs emi11 hw => ?_)
            have hf := nc_let_at hf emi11
            refine lv_aload_n hx hb dX8_personComes_94 rfl (lv_at hl 0 rfl) ?_
            refine lv_bipush (v := 6) hx hb dX8_personComes_95 (by decide) ?_
            refine lv_aload_n hx hb dX8_personComes_97 rfl (lv_at hl 0 rfl) ?_
            refine lv_iconst (v := 2) hx hb dX8_personComes_98 (by decide) ?_
            refine nc_ild cx hw (((lModel_person_L h0)).2 j8 lj8).2 (nc_lit (j := 2) rfl (by decide) (by decide)) rfl dX8_personComes_99 ?_
            refine nc_ist cx hw (((lModel_person_L h0)).2 j8 lj8).2 (nc_lit (j := 6) rfl (by decide) (by decide)) rfl dX8_personComes_100 (fun mi12 H locs emi12 hw => ?_)
            have hf := nc_let_at hf emi12
            refine lv_iconst (v := 1) hx hb dX8_personComes_101 (by decide) ?_
            exact nc_rpm hret hf rfl hw dX8_personComes_102
          refine nc_loop_w (P := fun κ : Int32 → nc_Mem → Option (nc_Mem × Int32) => ∀ (x13 : Int32) (mi14 : nc_Mem), κ x13 mi14 = some res → ∀ (H : Heap) (locs : List Loc) (ls : Array Slot), nc_W G K mi14 H locs → lv_has ls 3 [(0, .ref o), (1, .ref (o + 12 + 1 + j8)), (2, .int x13)] → W p l e rm_X8_personComes s m args below meth c H locs 0 0 Q (F0 m 68 ls [])) ?_ ?_ 200 _ _ hf _ _ _ hw (lv_sub hl [2, 1, 0] rfl)
          · intro x13 mi14 hf; exact absurd hf (by intro q; cases q)
          · intro rc15 ihrc15 x13 mi14 hf H locs ls hw hl
            unfold B_X8_personComes_68 at hf
            refine lv_iload_n hx hb dX8_personComes_68 rfl (lv_at hl 2 rfl) ?_
            refine lv_iconst (v := 5) hx hb dX8_personComes_69 (by decide) ?_
            refine lv_icmp_ge (tgt := 88) hx hb dX8_personComes_70 (by decide) (fun c16 => ?_) (fun c16 => ?_)
            · have hf := nc_ifp hf c16
              exact hk9 _ hf _ _ _ hw (lv_sub hl [1] rfl)
            · have hf := nc_ifn hf c16
              refine lv_aload_n hx hb dX8_personComes_73 rfl (lv_at hl 1 rfl) ?_
              refine lv_iload_n hx hb dX8_personComes_74 rfl (lv_at hl 2 rfl) ?_
              refine lv_aload_n hx hb dX8_personComes_75 rfl (lv_at hl 0 rfl) ?_
              refine gr_X8_34 cx hw (lModel_is h0) (lModel_said h0) (lModel_said_L h0) dX8_personComes_76 ?_
              refine lv_iload_n hx hb dX8_personComes_79 rfl (lv_at hl 2 rfl) ?_
              obtain ⟨j17, ej17, ij17, lj17, hf⟩ := nc_ix hf
              refine nc_ild cx hw (lModel_said_L h0) ij17 ej17 dX8_personComes_80 ?_
              refine nc_ist cx hw (((lModel_person_L h0)).2 j8 lj8).2 ij17 ej17 dX8_personComes_81 (fun mi18 H locs emi18 hw => ?_)
              have hf := nc_let_at hf emi18
              obtain ⟨x19, ex19⟩ : ∃ y : Int32, y = x13 + 1 := ⟨_, rfl⟩
              have hf := nc_let_at hf ex19
              refine lv_iinc (v := x19) (lv' := [(2, .int x19), (0, .ref o), (1, .ref (o + 12 + 1 + j8))]) hx hb dX8_personComes_82 hl (k := 2) rfl (by rw [ex19]; rfl) (by decide) rfl (fun ls hl => ?_)
              refine lv_goto (tgt := 68) hx hb dX8_personComes_85 (by decide) ?_
              exact ihrc15 _ _ hf _ _ _ hw (lv_sub hl [1, 2, 0] rfl)
        · have hf := nc_ifp hf c6
          refine lv_iconst (v := 0) hx hb dX8_personComes_47 (by decide) ?_
          exact nc_rpm hret hf rfl hw dX8_personComes_48
abbrev rm_X8_thingComes : Room := { frames := 2, cells := 0, slots := 0, locals := 43 }
set_option maxRecDepth 100000 in
set_option maxHeartbeats 4000000 in
theorem c_X8_thingComes (l : Launch) {G : nc_G} {K : nc_K} {o : Nat} (h0 : nc_LModel G K o) (mi : nc_Mem)  (res : nc_Mem × Int32) (hf : f_X8_thingComes mi o = some res) : nc_M l yX8_thingComes cX8_thingComes 4 (some .boolean) rm_X8_thingComes 0 0 G K K [.ref o] mi res.1 (some (.int res.2)) := by
  refine nc_meet_i (by decide) (Nat.le_of_ble_eq_true rfl) ?_
  intro p e s m args below meth c Q H locs ls cx hret hw hl
  have cx : nc_C p s m args c cX8_thingComes 4 RX8 G := cx
  have hl : lv_has ls 4 [(0, .ref o)] := hl
  have hx := cx.1
  have hb := cx.2.1
  unfold f_X8_thingComes at hf
  refine lv_aload_n hx hb dX8_thingComes_0 rfl (lv_at hl 0 rfl) ?_
  refine lv_aload_n hx hb dX8_thingComes_1 rfl (lv_at hl 0 rfl) ?_
  refine gr_X8_34 cx hw (lModel_is h0) (lModel_said h0) (lModel_said_L h0) dX8_thingComes_2 ?_
  refine lv_iconst (v := 0) hx hb dX8_thingComes_5 (by decide) ?_
  refine nc_ild cx hw (lModel_said_L h0) (nc_lit (j := 0) rfl (by decide) (by decide)) rfl dX8_thingComes_6 ?_
  obtain ⟨q1, hq1, hf⟩ := nc_bi hf
  refine nc_callVi cx hw lk_X8_108 (c_X8_isPerson l h0 mi (mi (o + 26) 0) q1 hq1) (ci := 8) rfl (lModel_is h0) rfl hl.1 rfl (Nat.le_of_ble_eq_true rfl) ⟨rfl, rfl, Nat.le_of_ble_eq_true rfl, Nat.le_of_ble_eq_true rfl⟩ dX8_thingComes_7 (fun H locs hw => ?_)
  obtain ⟨k2, ek2, hf⟩ := nc_jn_of hf
  have hk2 : ∀ (v3 : Int32), k2 v3 = some res → ∀ (H : Heap) (locs : List Loc) (ls : Array Slot), nc_W G K mi H locs → lv_has ls 4 [(0, .ref o)] → W p l e rm_X8_thingComes s m args below meth c H locs 0 0 Q (F0 m 57 ls [.int v3]) := by
    intro v3 hf H locs ls hw hl
    have hf := ((congrFun ek2 v3)).symm.trans hf
    refine lv_istore_n (lv' := [(1, .int v3), (0, .ref o)]) hx hb dX8_thingComes_57 rfl hl (by decide) rfl (fun ls hl => ?_)
    refine lv_iload_n hx hb dX8_thingComes_58 rfl (lv_at hl 0 rfl) ?_
    refine lv_if_eq (tgt := 81) hx hb dX8_thingComes_59 (by decide) (fun c4 => ?_) (fun c4 => ?_)
    · have hf := nc_ifp hf c4
      refine lv_iconst (v := 0) hx hb dX8_thingComes_81 (by decide) ?_
      exact nc_rpm hret hf rfl hw dX8_thingComes_82
    · have hf := nc_ifn hf c4
      refine lv_aload_n hx hb dX8_thingComes_62 rfl (lv_at hl 1 rfl) ?_
      refine gr_X8_34 cx hw (lModel_is h0) (lModel_said h0) (lModel_said_L h0) dX8_thingComes_63 ?_
      refine lv_iconst (v := 4) hx hb dX8_thingComes_66 (by decide) ?_
      refine nc_ild cx hw (lModel_said_L h0) (nc_lit (j := 4) rfl (by decide) (by decide)) rfl dX8_thingComes_67 ?_
      refine lv_iconst (v := 1) hx hb dX8_thingComes_68 (by decide) ?_
      refine lv_icmp_lt (tgt := 81) hx hb dX8_thingComes_69 (by decide) (fun c5 => ?_) (fun c5 => ?_)
      · have hf := nc_ifp hf c5
        refine lv_iconst (v := 0) hx hb dX8_thingComes_81 (by decide) ?_
        exact nc_rpm hret hf rfl hw dX8_thingComes_82
      · have hf := nc_ifn hf c5
        refine lv_aload_n hx hb dX8_thingComes_72 rfl (lv_at hl 1 rfl) ?_
        refine gi_X8_68 cx hw (lModel_is h0) dX8_thingComes_73 ?_
        refine lv_bipush (v := 6) hx hb dX8_thingComes_76 (by decide) ?_
        refine lv_icmp_ne (tgt := 83) hx hb dX8_thingComes_78 (by decide) (fun c6 => ?_) (fun c6 => ?_)
        · have hf := nc_ifn hf c6
          refine lv_aload_n hx hb dX8_thingComes_83 rfl (lv_at hl 1 rfl) ?_
          refine gr_X8_31 cx hw (lModel_is h0) (lModel_thing h0) ((lModel_thing_L h0)).1 dX8_thingComes_84 ?_
          refine lv_aload_n hx hb dX8_thingComes_87 rfl (lv_at hl 1 rfl) ?_
          refine lv_dup hx hb dX8_thingComes_88 rfl ?_
          refine gi_X8_68 cx hw (lModel_is h0) dX8_thingComes_89 ?_
          refine lv_dup_x1 hx hb dX8_thingComes_92 rfl rfl ?_
          refine lv_iconst (v := 1) hx hb dX8_thingComes_93 (by decide) ?_
          refine lv_iadd hx hb dX8_thingComes_94 ?_
          refine pi_X8_68 cx hw (lModel_is h0) dX8_thingComes_95 (fun mi7 H locs emi7 hw => ?_)
          have hf := nc_let_at hf emi7
          obtain ⟨j8, ej8, ij8, lj8, hf⟩ := nc_ix hf
          refine nc_ald cx hw (by decide) ((lModel_thing_L h0)).1 ij8 ej8 (((lModel_thing_L h0)).2 j8 lj8).1 (((lModel_thing_L h0)).2 j8 lj8).2 dX8_thingComes_98 ?_
          refine lv_astore_n (lv' := [(2, .ref (o + 19 + 1 + j8)), (1, .int v3), (0, .ref o)]) hx hb dX8_thingComes_99 rfl hl (by decide) rfl (fun ls hl => ?_)
          refine lv_iconst (v := 0) hx hb dX8_thingComes_100 (by decide) ?_
          refine lv_istore_n (lv' := [(3, .int 0), (2, .ref (o + 19 + 1 + j8)), (1, .int v3), (0, .ref o)]) hx hb dX8_thingComes_101 rfl hl (by decide) rfl (fun ls hl => ?_)
          obtain ⟨k9, ek9, hf⟩ := nc_jn_of hf
          have hk9 : ∀ (mi10 : nc_Mem), k9 mi10 = some res → ∀ (H : Heap) (locs : List Loc) (ls : Array Slot), nc_W G K mi10 H locs → lv_has ls 4 [(2, .ref (o + 19 + 1 + j8))] → W p l e rm_X8_thingComes s m args below meth c H locs 0 0 Q (F0 m 123 ls []) := by
            intro mi10 hf H locs ls hw hl
            have hf := ((congrFun ek9 mi10)).symm.trans hf
            refine lv_aload_n hx hb dX8_thingComes_123 rfl (lv_at hl 0 rfl) ?_
            refine lv_bipush (v := 7) hx hb dX8_thingComes_124 (by decide) ?_
            refine lv_aload_n hx hb dX8_thingComes_126 rfl (lv_at hl 0 rfl) ?_
            refine lv_iconst (v := 2) hx hb dX8_thingComes_127 (by decide) ?_
            refine nc_ild cx hw (((lModel_thing_L h0)).2 j8 lj8).2 (nc_lit (j := 2) rfl (by decide) (by decide)) rfl dX8_thingComes_128 ?_
            refine nc_ist cx hw (((lModel_thing_L h0)).2 j8 lj8).2 (nc_lit (j := 7) rfl (by decide) (by decide)) rfl dX8_thingComes_129 (fun mi11 H locs emi11 hw => ?_)
            have hf := nc_let_at hf emi11
            refine lv_aload_n hx hb dX8_thingComes_130 rfl (lv_at hl 0 rfl) ?_
            refine lv_bipush (v := 8) hx hb dX8_thingComes_131 (by decide) ?_
            refine lv_iconst (v := 0) hx hb dX8_thingComes_133 (by decide) ?_
            refine nc_ist cx hw (((lModel_thing_L h0)).2 j8 lj8).2 (nc_lit (j := 8) rfl (by decide) (by decide)) rfl dX8_thingComes_134 (fun mi12 H locs emi12 hw => ?_)
            have hf := nc_let_at hf emi12
            refine lv_aload_n hx hb dX8_thingComes_135 rfl (lv_at hl 0 rfl) ?_
            refine lv_bipush (v := 9) hx hb dX8_thingComes_136 (by decide) ?_
            refine lv_bipush (v := (-9)) hx hb dX8_thingComes_138 (by decide) ?_
            refine nc_ist cx hw (((lModel_thing_L h0)).2 j8 lj8).2 (nc_lit (j := 9) rfl (by decide) (by decide)) rfl dX8_thingComes_140 (fun mi13 H locs emi13 hw => ?_)
            have hf := nc_let_at hf emi13
            refine lv_iconst (v := 1) hx hb dX8_thingComes_141 (by decide) ?_
            exact nc_rpm hret hf rfl hw dX8_thingComes_142
          refine nc_loop_w (P := fun κ : Int32 → nc_Mem → Option (nc_Mem × Int32) => ∀ (x14 : Int32) (mi15 : nc_Mem), κ x14 mi15 = some res → ∀ (H : Heap) (locs : List Loc) (ls : Array Slot), nc_W G K mi15 H locs → lv_has ls 4 [(0, .ref o), (2, .ref (o + 19 + 1 + j8)), (3, .int x14)] → W p l e rm_X8_thingComes s m args below meth c H locs 0 0 Q (F0 m 102 ls [])) ?_ ?_ 200 _ _ hf _ _ _ hw (lv_sub hl [3, 1, 0] rfl)
          · intro x14 mi15 hf; exact absurd hf (by intro q; cases q)
          · intro rc16 ihrc16 x14 mi15 hf H locs ls hw hl
            unfold B_X8_thingComes_102 at hf
            refine lv_iload_n hx hb dX8_thingComes_102 rfl (lv_at hl 2 rfl) ?_
            refine lv_bipush (v := 7) hx hb dX8_thingComes_103 (by decide) ?_
            refine lv_icmp_ge (tgt := 123) hx hb dX8_thingComes_105 (by decide) (fun c17 => ?_) (fun c17 => ?_)
            · have hf := nc_ifp hf c17
              exact hk9 _ hf _ _ _ hw (lv_sub hl [1] rfl)
            · have hf := nc_ifn hf c17
              refine lv_aload_n hx hb dX8_thingComes_108 rfl (lv_at hl 1 rfl) ?_
              refine lv_iload_n hx hb dX8_thingComes_109 rfl (lv_at hl 2 rfl) ?_
              refine lv_aload_n hx hb dX8_thingComes_110 rfl (lv_at hl 0 rfl) ?_
              refine gr_X8_34 cx hw (lModel_is h0) (lModel_said h0) (lModel_said_L h0) dX8_thingComes_111 ?_
              refine lv_iload_n hx hb dX8_thingComes_114 rfl (lv_at hl 2 rfl) ?_
              obtain ⟨j18, ej18, ij18, lj18, hf⟩ := nc_ix hf
              refine nc_ild cx hw (lModel_said_L h0) ij18 ej18 dX8_thingComes_115 ?_
              obtain ⟨j19, ej19, ij19, lj19, hf⟩ := nc_ix hf
              refine nc_ist cx hw (((lModel_thing_L h0)).2 j8 lj8).2 ij19 ej19 dX8_thingComes_116 (fun mi20 H locs emi20 hw => ?_)
              have hf := nc_let_at hf emi20
              obtain ⟨x21, ex21⟩ : ∃ y : Int32, y = x14 + 1 := ⟨_, rfl⟩
              have hf := nc_let_at hf ex21
              refine lv_iinc (v := x21) (lv' := [(3, .int x21), (0, .ref o), (2, .ref (o + 19 + 1 + j8))]) hx hb dX8_thingComes_117 hl (k := 2) rfl (by rw [ex21]; rfl) (by decide) rfl (fun ls hl => ?_)
              refine lv_goto (tgt := 102) hx hb dX8_thingComes_120 (by decide) ?_
              exact ihrc16 _ _ hf _ _ _ hw (lv_sub hl [1, 2, 0] rfl)
        · have hf := nc_ifp hf c6
          refine lv_iconst (v := 0) hx hb dX8_thingComes_81 (by decide) ?_
          exact nc_rpm hret hf rfl hw dX8_thingComes_82
  refine lv_if_eq (tgt := 56) hx hb dX8_thingComes_10 (by decide) (fun c22 => ?_) (fun c22 => ?_)
  · have hf := nc_ifp hf c22
    refine lv_iconst (v := 0) hx hb dX8_thingComes_56 (by decide) ?_
    exact hk2 _ hf _ _ _ hw (lv_sub hl [0] rfl)
  · have hf := nc_ifn hf c22
    refine lv_aload_n hx hb dX8_thingComes_13 rfl (lv_at hl 0 rfl) ?_
    refine lv_aload_n hx hb dX8_thingComes_14 rfl (lv_at hl 0 rfl) ?_
    refine gr_X8_34 cx hw (lModel_is h0) (lModel_said h0) (lModel_said_L h0) dX8_thingComes_15 ?_
    refine lv_iconst (v := 1) hx hb dX8_thingComes_18 (by decide) ?_
    refine nc_ild cx hw (lModel_said_L h0) (nc_lit (j := 1) rfl (by decide) (by decide)) rfl dX8_thingComes_19 ?_
    obtain ⟨q23, hq23, hf⟩ := nc_bi hf
    refine nc_callVi cx hw lk_X8_108 (c_X8_isPerson l h0 mi (mi (o + 26) 1) q23 hq23) (ci := 8) rfl (lModel_is h0) rfl hl.1 rfl (Nat.le_of_ble_eq_true rfl) ⟨rfl, rfl, Nat.le_of_ble_eq_true rfl, Nat.le_of_ble_eq_true rfl⟩ dX8_thingComes_20 (fun H locs hw => ?_)
    refine lv_if_eq (tgt := 56) hx hb dX8_thingComes_23 (by decide) (fun c24 => ?_) (fun c24 => ?_)
    · have hf := nc_ifp hf c24
      refine lv_iconst (v := 0) hx hb dX8_thingComes_56 (by decide) ?_
      exact hk2 _ hf _ _ _ hw (lv_sub hl [0] rfl)
    · have hf := nc_ifn hf c24
      refine lv_aload_n hx hb dX8_thingComes_26 rfl (lv_at hl 0 rfl) ?_
      refine lv_aload_n hx hb dX8_thingComes_27 rfl (lv_at hl 0 rfl) ?_
      refine gr_X8_34 cx hw (lModel_is h0) (lModel_said h0) (lModel_said_L h0) dX8_thingComes_28 ?_
      refine lv_iconst (v := 2) hx hb dX8_thingComes_31 (by decide) ?_
      refine nc_ild cx hw (lModel_said_L h0) (nc_lit (j := 2) rfl (by decide) (by decide)) rfl dX8_thingComes_32 ?_
      obtain ⟨q25, hq25, hf⟩ := nc_bi hf
      refine nc_callVi cx hw lk_X8_105 (c_X8_isPlace l h0 mi (mi (o + 26) 2) q25 hq25) (ci := 8) rfl (lModel_is h0) rfl hl.1 rfl (Nat.le_of_ble_eq_true rfl) ⟨rfl, rfl, Nat.le_of_ble_eq_true rfl, Nat.le_of_ble_eq_true rfl⟩ dX8_thingComes_33 (fun H locs hw => ?_)
      refine lv_if_eq (tgt := 56) hx hb dX8_thingComes_36 (by decide) (fun c26 => ?_) (fun c26 => ?_)
      · have hf := nc_ifp hf c26
        refine lv_iconst (v := 0) hx hb dX8_thingComes_56 (by decide) ?_
        exact hk2 _ hf _ _ _ hw (lv_sub hl [0] rfl)
      · have hf := nc_ifn hf c26
        refine lv_aload_n hx hb dX8_thingComes_39 rfl (lv_at hl 0 rfl) ?_
        refine lv_aload_n hx hb dX8_thingComes_40 rfl (lv_at hl 0 rfl) ?_
        refine gr_X8_34 cx hw (lModel_is h0) (lModel_said h0) (lModel_said_L h0) dX8_thingComes_41 ?_
        refine lv_iconst (v := 3) hx hb dX8_thingComes_44 (by decide) ?_
        refine nc_ild cx hw (lModel_said_L h0) (nc_lit (j := 3) rfl (by decide) (by decide)) rfl dX8_thingComes_45 ?_
        obtain ⟨q27, hq27, hf⟩ := nc_bi hf
        refine nc_callVi cx hw lk_X8_105 (c_X8_isPlace l h0 mi (mi (o + 26) 3) q27 hq27) (ci := 8) rfl (lModel_is h0) rfl hl.1 rfl (Nat.le_of_ble_eq_true rfl) ⟨rfl, rfl, Nat.le_of_ble_eq_true rfl, Nat.le_of_ble_eq_true rfl⟩ dX8_thingComes_46 (fun H locs hw => ?_)
        refine lv_if_eq (tgt := 56) hx hb dX8_thingComes_49 (by decide) (fun c28 => ?_) (fun c28 => ?_)
        · have hf := nc_ifp hf c28
          refine lv_iconst (v := 0) hx hb dX8_thingComes_56 (by decide) ?_
          exact hk2 _ hf _ _ _ hw (lv_sub hl [0] rfl)
        · have hf := nc_ifn hf c28
          refine lv_iconst (v := 1) hx hb dX8_thingComes_52 (by decide) ?_
          refine lv_goto (tgt := 57) hx hb dX8_thingComes_53 (by decide) ?_
          exact hk2 _ hf _ _ _ hw (lv_sub hl [0] rfl)
