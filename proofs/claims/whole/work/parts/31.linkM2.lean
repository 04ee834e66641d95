abbrev rm_X8_lay : Room := { frames := 2, cells := 0, slots := 0, locals := 43 }
set_option maxRecDepth 100000 in
set_option maxHeartbeats 4000000 in
theorem c_X8_lay (l : Launch) {G : nc_G} {K : nc_K} {o : Nat} (h0 : nc_LModel G K o) (mi : nc_Mem) (a1 a2 : Int32) (res : nc_Mem × Int32) (hf : f_X8_lay mi o a1 a2 = some res) : nc_M l yX8_lay cX8_lay 3 (some .int) rm_X8_lay 0 0 G K K [.ref o, .int a1, .int a2] mi res.1 (some (.int res.2)) := by
  refine nc_meet_i (by decide) (Nat.le_of_ble_eq_true rfl) ?_
  intro p e s m args below meth c Q H locs ls cx hret hw hl
  have cx : nc_C p s m args c cX8_lay 3 RX8 G := cx
  have hl : lv_has ls 3 [(0, .ref o), (1, .int a1), (2, .int a2)] := hl
  have hx := cx.1
  have hb := cx.2.1
  unfold f_X8_lay at hf
  refine lv_aload_n hx hb dX8_lay_0 rfl (lv_at hl 0 rfl) ?_
  refine lv_iload_n hx hb dX8_lay_1 rfl (lv_at hl 1 rfl) ?_
  obtain ⟨q1, hq1, hf⟩ := nc_bi hf
  refine nc_callVi cx hw lk_X8_108 (c_X8_isPerson l h0 mi a1 q1 hq1) (ci := 8) rfl (lModel_is h0) rfl hl.1 rfl (Nat.le_of_ble_eq_true rfl) ⟨rfl, rfl, Nat.le_of_ble_eq_true rfl, Nat.le_of_ble_eq_true rfl⟩ dX8_lay_2 (fun H locs hw => ?_)
  obtain ⟨k2, ek2, hf⟩ := nc_jn_of hf
  have hk2 : k2 = some res → ∀ (H : Heap) (locs : List Loc) (ls : Array Slot), nc_W G K mi H locs → lv_has ls 3 [(0, .ref o)] → W p l e rm_X8_lay s m args below meth c H locs 0 0 Q (F0 m 16 ls []) := by
    intro hf H locs ls hw hl
    have hf := (ek2).symm.trans hf
    refine lv_aload_n hx hb dX8_lay_16 rfl (lv_at hl 0 rfl) ?_
    refine lv_iconst (v := (-1)) hx hb dX8_lay_17 (by decide) ?_
    obtain ⟨q3, hq3, hf⟩ := nc_bi hf
    refine nc_callVi cx hw lk_X8_71 (c_X8_refuse l h0 mi (-1) q3 hq3) (ci := 8) rfl (lModel_is h0) rfl hl.1 rfl (Nat.le_of_ble_eq_true rfl) ⟨rfl, rfl, Nat.le_of_ble_eq_true rfl, Nat.le_of_ble_eq_true rfl⟩ dX8_lay_18 (fun H locs hw => ?_)
    exact nc_rpm hret hf rfl hw dX8_lay_21
  refine lv_if_eq (tgt := 16) hx hb dX8_lay_5 (by decide) (fun c4 => ?_) (fun c4 => ?_)
  · have hf := nc_ifp hf c4
    exact hk2 hf _ _ _ hw (lv_sub hl [0] rfl)
  · have hf := nc_ifn hf c4
    refine lv_aload_n hx hb dX8_lay_8 rfl (lv_at hl 0 rfl) ?_
    refine lv_iload_n hx hb dX8_lay_9 rfl (lv_at hl 2 rfl) ?_
    obtain ⟨q5, hq5, hf⟩ := nc_bi hf
    refine nc_callVi cx hw lk_X8_145 (c_X8_isThing l h0 mi a2 q5 hq5) (ci := 8) rfl (lModel_is h0) rfl hl.1 rfl (Nat.le_of_ble_eq_true rfl) ⟨rfl, rfl, Nat.le_of_ble_eq_true rfl, Nat.le_of_ble_eq_true rfl⟩ dX8_lay_10 (fun H locs hw => ?_)
    refine lv_if_ne (tgt := 22) hx hb dX8_lay_13 (by decide) (fun c6 => ?_) (fun c6 => ?_)
    · have hf := nc_ifn hf c6
      refine lv_aload_n hx hb dX8_lay_22 rfl (lv_at hl 0 rfl) ?_
      refine gr_X8_31 cx hw (lModel_is h0) (lModel_thing h0) ((lModel_thing_L h0)).1 dX8_lay_23 ?_
      refine lv_iload_n hx hb dX8_lay_26 rfl (lv_at hl 2 rfl) ?_
      obtain ⟨j7, ej7, ij7, lj7, hf⟩ := nc_ix hf
      refine nc_ald cx hw (by decide) ((lModel_thing_L h0)).1 ij7 ej7 (((lModel_thing_L h0)).2 j7 lj7).1 (((lModel_thing_L h0)).2 j7 lj7).2 dX8_lay_27 ?_
      refine lv_bipush (v := 7) hx hb dX8_lay_28 (by decide) ?_
      refine nc_ild cx hw (((lModel_thing_L h0)).2 j7 lj7).2 (nc_lit (j := 7) rfl (by decide) (by decide)) rfl dX8_lay_30 ?_
      refine lv_bipush (v := 10) hx hb dX8_lay_31 (by decide) ?_
      refine lv_iload_n hx hb dX8_lay_33 rfl (lv_at hl 1 rfl) ?_
      refine lv_iadd hx hb dX8_lay_34 ?_
      refine lv_icmp_eq (tgt := 45) hx hb dX8_lay_35 (by decide) (fun c8 => ?_) (fun c8 => ?_)
      · have hf := nc_ifp hf c8
        refine lv_aload_n hx hb dX8_lay_45 rfl (lv_at hl 0 rfl) ?_
        refine gr_X8_31 cx hw (lModel_is h0) (lModel_thing h0) ((lModel_thing_L h0)).1 dX8_lay_46 ?_
        refine lv_iload_n hx hb dX8_lay_49 rfl (lv_at hl 2 rfl) ?_
        refine nc_ald cx hw (by decide) ((lModel_thing_L h0)).1 ij7 ej7 (((lModel_thing_L h0)).2 j7 lj7).1 (((lModel_thing_L h0)).2 j7 lj7).2 dX8_lay_50 ?_
        refine lv_bipush (v := 7) hx hb dX8_lay_51 (by decide) ?_
        refine lv_aload_n hx hb dX8_lay_53 rfl (lv_at hl 0 rfl) ?_
        refine gr_X8_28 cx hw (lModel_is h0) (lModel_person h0) ((lModel_person_L h0)).1 dX8_lay_54 ?_
        refine lv_iload_n hx hb dX8_lay_57 rfl (lv_at hl 1 rfl) ?_
        obtain ⟨j9, ej9, ij9, lj9, hf⟩ := nc_ix hf
        refine nc_ald cx hw (by decide) ((lModel_person_L h0)).1 ij9 ej9 (((lModel_person_L h0)).2 j9 lj9).1 (((lModel_person_L h0)).2 j9 lj9).2 dX8_lay_58 ?_
        refine lv_iconst (v := 5) hx hb dX8_lay_59 (by decide) ?_
        refine nc_ild cx hw (((lModel_person_L h0)).2 j9 lj9).2 (nc_lit (j := 5) rfl (by decide) (by decide)) rfl dX8_lay_60 ?_
        refine nc_ist cx hw (((lModel_thing_L h0)).2 j7 lj7).2 (nc_lit (j := 7) rfl (by decide) (by decide)) rfl dX8_lay_61 (fun mi10 H locs emi10 hw => ?_)
        have hf := nc_let_at hf emi10
        refine lv_aload_n hx hb dX8_lay_62 rfl (lv_at hl 0 rfl) ?_
        refine gr_X8_31 cx hw (lModel_is h0) (lModel_thing h0) ((lModel_thing_L h0)).1 dX8_lay_63 ?_
        refine lv_iload_n hx hb dX8_lay_66 rfl (lv_at hl 2 rfl) ?_
        refine nc_ald cx hw (by decide) ((lModel_thing_L h0)).1 ij7 ej7 (((lModel_thing_L h0)).2 j7 lj7).1 (((lModel_thing_L h0)).2 j7 lj7).2 dX8_lay_67 ?_
        refine lv_bipush (v := 8) hx hb dX8_lay_68 (by decide) ?_
        refine lv_aload_n hx hb dX8_lay_70 rfl (lv_at hl 0 rfl) ?_
        refine gr_X8_28 cx hw (lModel_is h0) (lModel_person h0) ((lModel_person_L h0)).1 dX8_lay_71 ?_
        refine lv_iload_n hx hb dX8_lay_74 rfl (lv_at hl 1 rfl) ?_
        refine nc_ald cx hw (by decide) ((lModel_person_L h0)).1 ij9 ej9 (((lModel_person_L h0)).2 j9 lj9).1 (((lModel_person_L h0)).2 j9 lj9).2 dX8_lay_75 ?_
        refine lv_bipush (v := 6) hx hb dX8_lay_76 (by decide) ?_
        refine nc_ild cx hw (((lModel_person_L h0)).2 j9 lj9).2 (nc_lit (j := 6) rfl (by decide) (by decide)) rfl dX8_lay_78 ?_
        refine nc_ist cx hw (((lModel_thing_L h0)).2 j7 lj7).2 (nc_lit (j := 8) rfl (by decide) (by decide)) rfl dX8_lay_79 (fun mi11 H locs emi11 hw => ?_)
        have hf := nc_let_at hf emi11
        refine lv_aload_n hx hb dX8_lay_80 rfl (lv_at hl 0 rfl) ?_
        refine gr_X8_28 cx hw (lModel_is h0) (lModel_person h0) ((lModel_person_L h0)).1 dX8_lay_81 ?_
        refine lv_iload_n hx hb dX8_lay_84 rfl (lv_at hl 1 rfl) ?_
        refine nc_ald cx hw (by decide) ((lModel_person_L h0)).1 ij9 ej9 (((lModel_person_L h0)).2 j9 lj9).1 (((lModel_person_L h0)).2 j9 lj9).2 dX8_lay_85 ?_
        refine lv_bipush (v := 6) hx hb dX8_lay_86 (by decide) ?_
        refine nc_ild cx hw (((lModel_person_L h0)).2 j9 lj9).2 (nc_lit (j := 6) rfl (by decide) (by decide)) rfl dX8_lay_88 ?_
        exact nc_rpm hret hf rfl hw dX8_lay_89
      · have hf := nc_ifn hf c8
        refine lv_aload_n hx hb dX8_lay_38 rfl (lv_at hl 0 rfl) ?_
        refine lv_bipush (v := (-3)) hx hb dX8_lay_39 (by decide) ?_
        obtain ⟨q12, hq12, hf⟩ := nc_bi hf
        refine nc_callVi cx hw lk_X8_71 (c_X8_refuse l h0 mi (-3) q12 hq12) (ci := 8) rfl (lModel_is h0) rfl hl.1 rfl (Nat.le_of_ble_eq_true rfl) ⟨rfl, rfl, Nat.le_of_ble_eq_true rfl, Nat.le_of_ble_eq_true rfl⟩ dX8_lay_41 (fun H locs hw => ?_)
        exact nc_rpm hret hf rfl hw dX8_lay_44
    · have hf := nc_ifp hf c6
      exact hk2 hf _ _ _ hw (lv_sub hl [0] rfl)
abbrev rm_X8_hand : Room := { frames := 3, cells := 0, slots := 0, locals := 71 }
set_option maxRecDepth 100000 in
set_option maxHeartbeats 4000000 in
theorem c_X8_hand (l : Launch) {G : nc_G} {K : nc_K} {o : Nat} (h0 : nc_LModel G K o) (mi : nc_Mem) (a1 a2 a3 : Int32) (res : nc_Mem × Int32) (hf : f_X8_hand mi o a1 a2 a3 = some res) : nc_M l yX8_hand cX8_hand 5 (some .int) rm_X8_hand 0 0 G K K [.ref o, .int a1, .int a2, .int a3] mi res.1 (some (.int res.2)) := by
  refine nc_meet_i (by decide) (Nat.le_of_ble_eq_true rfl) ?_
  intro p e s m args below meth c Q H locs ls cx hret hw hl
  have cx : nc_C p s m args c cX8_hand 5 RX8 G := cx
  have hl : lv_has ls 5 [(0, .ref o), (1, .int a1), (2, .int a2), (3, .int a3)] := hl
  have hx := cx.1
  have hb := cx.2.1
  unfold f_X8_hand at hf
  refine lv_aload_n hx hb dX8_hand_0 rfl (lv_at hl 0 rfl) ?_
  refine lv_iload_n hx hb dX8_hand_1 rfl (lv_at hl 1 rfl) ?_
  obtain ⟨q1, hq1, hf⟩ := nc_bi hf
  refine nc_callVi cx hw lk_X8_108 (c_X8_isPerson l h0 mi a1 q1 hq1) (ci := 8) rfl (lModel_is h0) rfl hl.1 rfl (Nat.le_of_ble_eq_true rfl) ⟨rfl, rfl, Nat.le_of_ble_eq_true rfl, Nat.le_of_ble_eq_true rfl⟩ dX8_hand_2 (fun H locs hw => ?_)
  obtain ⟨k2, ek2, hf⟩ := nc_jn_of hf
  have hk2 : k2 = some res → ∀ (H : Heap) (locs : List Loc) (ls : Array Slot), nc_W G K mi H locs → lv_has ls 5 [(0, .ref o)] → W p l e rm_X8_hand s m args below meth c H locs 0 0 Q (F0 m 29 ls []) := by
    intro hf H locs ls hw hl
    have hf := (ek2).symm.trans hf
    refine lv_aload_n hx hb dX8_hand_29 rfl (lv_at hl 0 rfl) ?_
    refine lv_iconst (v := (-1)) hx hb dX8_hand_30 (by decide) ?_
    obtain ⟨q3, hq3, hf⟩ := nc_bi hf
    refine nc_callVi cx hw lk_X8_71 (c_X8_refuse l h0 mi (-1) q3 hq3) (ci := 8) rfl (lModel_is h0) rfl hl.1 rfl (Nat.le_of_ble_eq_true rfl) ⟨rfl, rfl, Nat.le_of_ble_eq_true rfl, Nat.le_of_ble_eq_true rfl⟩ dX8_hand_31 (fun H locs hw => ?_)
    exact nc_rpm hret hf rfl hw dX8_hand_34
  refine lv_if_eq (tgt := 29) hx hb dX8_hand_5 (by decide) (fun c4 => ?_) (fun c4 => ?_)
  · have hf := nc_ifp hf c4
    exact hk2 hf _ _ _ hw (lv_sub hl [0] rfl)
  · have hf := nc_ifn hf c4
    refine lv_aload_n hx hb dX8_hand_8 rfl (lv_at hl 0 rfl) ?_
    refine lv_iload_n hx hb dX8_hand_9 rfl (lv_at hl 2 rfl) ?_
    obtain ⟨q5, hq5, hf⟩ := nc_bi hf
    refine nc_callVi cx hw lk_X8_108 (c_X8_isPerson l h0 mi a2 q5 hq5) (ci := 8) rfl (lModel_is h0) rfl hl.1 rfl (Nat.le_of_ble_eq_true rfl) ⟨rfl, rfl, Nat.le_of_ble_eq_true rfl, Nat.le_of_ble_eq_true rfl⟩ dX8_hand_10 (fun H locs hw => ?_)
    refine lv_if_eq (tgt := 29) hx hb dX8_hand_13 (by decide) (fun c6 => ?_) (fun c6 => ?_)
    · have hf := nc_ifp hf c6
      exact hk2 hf _ _ _ hw (lv_sub hl [0] rfl)
    · have hf := nc_ifn hf c6
      refine lv_iload_n hx hb dX8_hand_16 rfl (lv_at hl 1 rfl) ?_
      refine lv_iload_n hx hb dX8_hand_17 rfl (lv_at hl 2 rfl) ?_
      refine lv_icmp_eq (tgt := 29) hx hb dX8_hand_18 (by decide) (fun c7 => ?_) (fun c7 => ?_)
      · have hf := nc_ifp hf c7
        exact hk2 hf _ _ _ hw (lv_sub hl [0] rfl)
      · have hf := nc_ifn hf c7
        refine lv_aload_n hx hb dX8_hand_21 rfl (lv_at hl 0 rfl) ?_
        refine lv_iload_n hx hb dX8_hand_22 rfl (lv_at hl 3 rfl) ?_
        obtain ⟨q8, hq8, hf⟩ := nc_bi hf
        refine nc_callVi cx hw lk_X8_145 (c_X8_isThing l h0 mi a3 q8 hq8) (ci := 8) rfl (lModel_is h0) rfl hl.1 rfl (Nat.le_of_ble_eq_true rfl) ⟨rfl, rfl, Nat.le_of_ble_eq_true rfl, Nat.le_of_ble_eq_true rfl⟩ dX8_hand_23 (fun H locs hw => ?_)
        refine lv_if_ne (tgt := 35) hx hb dX8_hand_26 (by decide) (fun c9 => ?_) (fun c9 => ?_)
        · have hf := nc_ifn hf c9
          refine lv_aload_n hx hb dX8_hand_35 rfl (lv_at hl 0 rfl) ?_
          refine gr_X8_28 cx hw (lModel_is h0) (lModel_person h0) ((lModel_person_L h0)).1 dX8_hand_36 ?_
          refine lv_iload_n hx hb dX8_hand_39 rfl (lv_at hl 1 rfl) ?_
          obtain ⟨j10, ej10, ij10, lj10, hf⟩ := nc_ix hf
          refine nc_ald cx hw (by decide) ((lModel_person_L h0)).1 ij10 ej10 (((lModel_person_L h0)).2 j10 lj10).1 (((lModel_person_L h0)).2 j10 lj10).2 dX8_hand_40 ?_
          refine lv_bipush (v := 6) hx hb dX8_hand_41 (by decide) ?_
          refine nc_ild cx hw (((lModel_person_L h0)).2 j10 lj10).2 (nc_lit (j := 6) rfl (by decide) (by decide)) rfl dX8_hand_43 ?_
          refine lv_aload_n hx hb dX8_hand_44 rfl (lv_at hl 0 rfl) ?_
          refine gr_X8_28 cx hw (lModel_is h0) (lModel_person h0) ((lModel_person_L h0)).1 dX8_hand_45 ?_
          refine lv_iload_n hx hb dX8_hand_48 rfl (lv_at hl 2 rfl) ?_
          obtain ⟨j11, ej11, ij11, lj11, hf⟩ := nc_ix hf
          refine nc_ald cx hw (by decide) ((lModel_person_L h0)).1 ij11 ej11 (((lModel_person_L h0)).2 j11 lj11).1 (((lModel_person_L h0)).2 j11 lj11).2 dX8_hand_49 ?_
          refine lv_bipush (v := 6) hx hb dX8_hand_50 (by decide) ?_
          refine nc_ild cx hw (((lModel_person_L h0)).2 j11 lj11).2 (nc_lit (j := 6) rfl (by decide) (by decide)) rfl dX8_hand_52 ?_
          refine nc_callSi cx hw lk_X8_171 (c_X8_later l  mi (mi (o + 12 + 1 + j10) 6) (mi (o + 12 + 1 + j11) 6) _ rfl) rfl hl.1 rfl (Nat.le_of_ble_eq_true rfl) ⟨rfl, rfl, Nat.le_of_ble_eq_true rfl, Nat.le_of_ble_eq_true rfl⟩ dX8_hand_53 (fun H locs hw => ?_)
          refine lv_topi (fun x12 ex12 => ?_)
          have hf := nc_let_at hf ex12
          refine lv_istore (lv' := [(4, .int x12), (0, .ref o), (1, .int a1), (2, .int a2), (3, .int a3)]) hx hb dX8_hand_56 hl (by decide) rfl (fun ls hl => ?_)
          refine lv_aload_n hx hb dX8_hand_58 rfl (lv_at hl 1 rfl) ?_
          refine gr_X8_31 cx hw (lModel_is h0) (lModel_thing h0) ((lModel_thing_L h0)).1 dX8_hand_59 ?_
          refine lv_iload_n hx hb dX8_hand_62 rfl (lv_at hl 4 rfl) ?_
          obtain ⟨j13, ej13, ij13, lj13, hf⟩ := nc_ix hf
          refine nc_ald cx hw (by decide) ((lModel_thing_L h0)).1 ij13 ej13 (((lModel_thing_L h0)).2 j13 lj13).1 (((lModel_thing_L h0)).2 j13 lj13).2 dX8_hand_63 ?_
          refine lv_bipush (v := 7) hx hb dX8_hand_64 (by decide) ?_
          refine nc_ild cx hw (((lModel_thing_L h0)).2 j13 lj13).2 (nc_lit (j := 7) rfl (by decide) (by decide)) rfl dX8_hand_66 ?_
          refine lv_bipush (v := 10) hx hb dX8_hand_67 (by decide) ?_
          refine lv_iload_n hx hb dX8_hand_69 rfl (lv_at hl 2 rfl) ?_
          refine lv_iadd hx hb dX8_hand_70 ?_
          obtain ⟨k14, ek14, hf⟩ := nc_jn_of hf
          have hk14 : k14 = some res → ∀ (H : Heap) (locs : List Loc) (ls : Array Slot), nc_W G K mi H locs → lv_has ls 5 [(0, .ref o)] → W p l e rm_X8_hand s m args below meth c H locs 0 0 Q (F0 m 113 ls []) := by
            intro hf H locs ls hw hl
            have hf := (ek14).symm.trans hf
            refine lv_aload_n hx hb dX8_hand_113 rfl (lv_at hl 0 rfl) ?_
            refine lv_bipush (v := (-3)) hx hb dX8_hand_114 (by decide) ?_
            obtain ⟨q15, hq15, hf⟩ := nc_bi hf
            refine nc_callVi cx hw lk_X8_71 (c_X8_refuse l h0 mi (-3) q15 hq15) (ci := 8) rfl (lModel_is h0) rfl hl.1 rfl (Nat.le_of_ble_eq_true rfl) ⟨rfl, rfl, Nat.le_of_ble_eq_true rfl, Nat.le_of_ble_eq_true rfl⟩ dX8_hand_116 (fun H locs hw => ?_)
            exact nc_rpm hret hf rfl hw dX8_hand_119
          refine lv_icmp_ne (tgt := 113) hx hb dX8_hand_71 (by decide) (fun c16 => ?_) (fun c16 => ?_)
          · have hf := nc_ifn hf c16
            exact hk14 hf _ _ _ hw (lv_sub hl [1] rfl)
          · have hf := nc_ifp hf c16
            refine lv_aload_n hx hb dX8_hand_74 rfl (lv_at hl 1 rfl) ?_
            refine gr_X8_28 cx hw (lModel_is h0) (lModel_person h0) ((lModel_person_L h0)).1 dX8_hand_75 ?_
            refine lv_iload_n hx hb dX8_hand_78 rfl (lv_at hl 2 rfl) ?_
            refine nc_ald cx hw (by decide) ((lModel_person_L h0)).1 ij10 ej10 (((lModel_person_L h0)).2 j10 lj10).1 (((lModel_person_L h0)).2 j10 lj10).2 dX8_hand_79 ?_
            refine lv_iconst (v := 5) hx hb dX8_hand_80 (by decide) ?_
            refine nc_ild cx hw (((lModel_person_L h0)).2 j10 lj10).2 (nc_lit (j := 5) rfl (by decide) (by decide)) rfl dX8_hand_81 ?_
            refine lv_aload_n hx hb dX8_hand_82 rfl (lv_at hl 1 rfl) ?_
            refine gr_X8_28 cx hw (lModel_is h0) (lModel_person h0) ((lModel_person_L h0)).1 dX8_hand_83 ?_
            refine lv_iload_n hx hb dX8_hand_86 rfl (lv_at hl 3 rfl) ?_
            refine nc_ald cx hw (by decide) ((lModel_person_L h0)).1 ij11 ej11 (((lModel_person_L h0)).2 j11 lj11).1 (((lModel_person_L h0)).2 j11 lj11).2 dX8_hand_87 ?_
            refine lv_iconst (v := 5) hx hb dX8_hand_88 (by decide) ?_
            refine nc_ild cx hw (((lModel_person_L h0)).2 j11 lj11).2 (nc_lit (j := 5) rfl (by decide) (by decide)) rfl dX8_hand_89 ?_
            refine lv_icmp_ne (tgt := 113) hx hb dX8_hand_90 (by decide) (fun c17 => ?_) (fun c17 => ?_)
            · have hf := nc_ifn hf c17
              exact hk14 hf _ _ _ hw (lv_sub hl [1] rfl)
            · have hf := nc_ifp hf c17
              refine lv_aload_n hx hb dX8_hand_93 rfl (lv_at hl 1 rfl) ?_
              refine lv_iload_n hx hb dX8_hand_94 rfl (lv_at hl 3 rfl) ?_
              refine lv_iload_n hx hb dX8_hand_95 rfl (lv_at hl 4 rfl) ?_
              refine lv_iload hx hb dX8_hand_96 (lv_at hl 0 rfl) ?_
              obtain ⟨q18, hq18, hf⟩ := nc_bi hf
              refine nc_callVi cx hw lk_X8_165 (c_X8_mayNow l h0 mi a2 a3 x12 q18 hq18) (ci := 8) rfl (lModel_is h0) rfl hl.1 rfl (Nat.le_of_ble_eq_true rfl) ⟨rfl, rfl, Nat.le_of_ble_eq_true rfl, Nat.le_of_ble_eq_true rfl⟩ dX8_hand_98 (fun H locs hw => ?_)
              refine lv_if_eq (tgt := 113) hx hb dX8_hand_101 (by decide) (fun c19 => ?_) (fun c19 => ?_)
              · have hf := nc_ifp hf c19
                exact hk14 hf _ _ _ hw (lv_sub hl [1] rfl)
              · have hf := nc_ifn hf c19
                refine lv_aload_n hx hb dX8_hand_104 rfl (lv_at hl 1 rfl) ?_
                refine lv_iload_n hx hb dX8_hand_105 rfl (lv_at hl 3 rfl) ?_
                refine lv_iload_n hx hb dX8_hand_106 rfl (lv_at hl 4 rfl) ?_
                obtain ⟨q20, hq20, hf⟩ := nc_bi hf
                refine nc_callVi cx hw lk_X8_175 (c_X8_hasRoom l h0 mi a2 a3 q20 hq20) (ci := 8) rfl (lModel_is h0) rfl hl.1 rfl (Nat.le_of_ble_eq_true rfl) ⟨rfl, rfl, Nat.le_of_ble_eq_true rfl, Nat.le_of_ble_eq_true rfl⟩ dX8_hand_107 (fun H locs hw => ?_)
                refine lv_if_ne (tgt := 120) hx hb dX8_hand_110 (by decide) (fun c21 => ?_) (fun c21 => ?_)
                · have hf := nc_ifn hf c21
                  refine lv_aload_n hx hb dX8_hand_120 rfl (lv_at hl 1 rfl) ?_
                  refine gr_X8_28 cx hw (lModel_is h0) (lModel_person h0) ((lModel_person_L h0)).1 dX8_hand_121 ?_
                  refine lv_iload_n hx hb dX8_hand_124 rfl (lv_at hl 2 rfl) ?_
                  refine nc_ald cx hw (by decide) ((lModel_person_L h0)).1 ij10 ej10 (((lModel_person_L h0)).2 j10 lj10).1 (((lModel_person_L h0)).2 j10 lj10).2 dX8_hand_125 ?_
                  refine lv_bipush (v := 6) hx hb dX8_hand_126 (by decide) ?_
                  refine lv_iload hx hb dX8_hand_128 (lv_at hl 0 rfl) ?_
                  refine nc_ist cx hw (((lModel_person_L h0)).2 j10 lj10).2 (nc_lit (j := 6) rfl (by decide) (by decide)) rfl dX8_hand_130 (fun mi22 H locs emi22 hw => ?_)
                  have hf := nc_let_at hf emi22
                  refine lv_aload_n hx hb dX8_hand_131 rfl (lv_at hl 1 rfl) ?_
                  refine gr_X8_28 cx hw (lModel_is h0) (lModel_person h0) ((lModel_person_L h0)).1 dX8_hand_132 ?_
                  refine lv_iload_n hx hb dX8_hand_135 rfl (lv_at hl 3 rfl) ?_
                  refine nc_ald cx hw (by decide) ((lModel_person_L h0)).1 ij11 ej11 (((lModel_person_L h0)).2 j11 lj11).1 (((lModel_person_L h0)).2 j11 lj11).2 dX8_hand_136 ?_
                  refine lv_bipush (v := 6) hx hb dX8_hand_137 (by decide) ?_
                  refine lv_iload hx hb dX8_hand_139 (lv_at hl 0 rfl) ?_
                  refine nc_ist cx hw (((lModel_person_L h0)).2 j11 lj11).2 (nc_lit (j := 6) rfl (by decide) (by decide)) rfl dX8_hand_141 (fun mi23 H locs emi23 hw => ?_)
                  have hf := nc_let_at hf emi23
                  refine lv_aload_n hx hb dX8_hand_142 rfl (lv_at hl 1 rfl) ?_
                  refine gr_X8_31 cx hw (lModel_is h0) (lModel_thing h0) ((lModel_thing_L h0)).1 dX8_hand_143 ?_
                  refine lv_iload_n hx hb dX8_hand_146 rfl (lv_at hl 4 rfl) ?_
                  refine nc_ald cx hw (by decide) ((lModel_thing_L h0)).1 ij13 ej13 (((lModel_thing_L h0)).2 j13 lj13).1 (((lModel_thing_L h0)).2 j13 lj13).2 dX8_hand_147 ?_
                  refine lv_bipush (v := 7) hx hb dX8_hand_148 (by decide) ?_
                  refine lv_bipush (v := 10) hx hb dX8_hand_150 (by decide) ?_
                  refine lv_iload_n hx hb dX8_hand_152 rfl (lv_at hl 3 rfl) ?_
                  refine lv_iadd hx hb dX8_hand_153 ?_
                  refine nc_ist cx hw (((lModel_thing_L h0)).2 j13 lj13).2 (nc_lit (j := 7) rfl (by decide) (by decide)) rfl dX8_hand_154 (fun mi24 H locs emi24 hw => ?_)
                  have hf := nc_let_at hf emi24
                  refine lv_iload hx hb dX8_hand_155 (lv_at hl 0 rfl) ?_
                  exact nc_rpm hret hf rfl hw dX8_hand_157
                · have hf := nc_ifp hf c21
                  exact hk14 hf _ _ _ hw (lv_sub hl [1] rfl)
        · have hf := nc_ifp hf c9
          exact hk2 hf _ _ _ hw (lv_sub hl [0] rfl)
abbrev rm_X8_tarry : Room := { frames := 2, cells := 0, slots := 0, locals := 43 }
set_option maxRecDepth 100000 in
set_option maxHeartbeats 4000000 in
theorem c_X8_tarry (l : Launch) {G : nc_G} {K : nc_K} {o : Nat} (h0 : nc_LModel G K o) (mi : nc_Mem) (a1 a2 : Int32) (res : nc_Mem × Int32) (hf : f_X8_tarry mi o a1 a2 = some res) : nc_M l yX8_tarry cX8_tarry 3 (some .int) rm_X8_tarry 0 0 G K K [.ref o, .int a1, .int a2] mi res.1 (some (.int res.2)) := by
  refine nc_meet_i (by decide) (Nat.le_of_ble_eq_true rfl) ?_
  intro p e s m args below meth c Q H locs ls cx hret hw hl
  have cx : nc_C p s m args c cX8_tarry 3 RX8 G := cx
  have hl : lv_has ls 3 [(0, .ref o), (1, .int a1), (2, .int a2)] := hl
  have hx := cx.1
  have hb := cx.2.1
  unfold f_X8_tarry at hf
  refine lv_aload_n hx hb dX8_tarry_0 rfl (lv_at hl 0 rfl) ?_
  refine lv_iload_n hx hb dX8_tarry_1 rfl (lv_at hl 1 rfl) ?_
  obtain ⟨q1, hq1, hf⟩ := nc_bi hf
  refine nc_callVi cx hw lk_X8_108 (c_X8_isPerson l h0 mi a1 q1 hq1) (ci := 8) rfl (lModel_is h0) rfl hl.1 rfl (Nat.le_of_ble_eq_true rfl) ⟨rfl, rfl, Nat.le_of_ble_eq_true rfl, Nat.le_of_ble_eq_true rfl⟩ dX8_tarry_2 (fun H locs hw => ?_)
  refine lv_if_ne (tgt := 14) hx hb dX8_tarry_5 (by decide) (fun c2 => ?_) (fun c2 => ?_)
  · have hf := nc_ifn hf c2
    refine lv_iload_n hx hb dX8_tarry_14 rfl (lv_at hl 2 rfl) ?_
    refine lv_iconst (v := 1) hx hb dX8_tarry_15 (by decide) ?_
    refine lv_icmp_ge (tgt := 26) hx hb dX8_tarry_16 (by decide) (fun c3 => ?_) (fun c3 => ?_)
    · have hf := nc_ifp hf c3
      refine lv_iload_n hx hb dX8_tarry_26 rfl (lv_at hl 2 rfl) ?_
      refine lv_sipush (v := 600) hx hb dX8_tarry_27 (by decide) ?_
      refine lv_icmp_le (tgt := 40) hx hb dX8_tarry_30 (by decide) (fun c4 => ?_) (fun c4 => ?_)
      · have hf := nc_ifp hf c4
        refine lv_aload_n hx hb dX8_tarry_40 rfl (lv_at hl 0 rfl) ?_
        refine gr_X8_28 cx hw (lModel_is h0) (lModel_person h0) ((lModel_person_L h0)).1 dX8_tarry_41 ?_
        refine lv_iload_n hx hb dX8_tarry_44 rfl (lv_at hl 1 rfl) ?_
        obtain ⟨j5, ej5, ij5, lj5, hf⟩ := nc_ix hf
        refine nc_ald cx hw (by decide) ((lModel_person_L h0)).1 ij5 ej5 (((lModel_person_L h0)).2 j5 lj5).1 (((lModel_person_L h0)).2 j5 lj5).2 dX8_tarry_45 ?_
        refine lv_bipush (v := 6) hx hb dX8_tarry_46 (by decide) ?_
        refine lv_dup2_11 hx hb dX8_tarry_48 rfl rfl ?_
        refine nc_ild cx hw (((lModel_person_L h0)).2 j5 lj5).2 (nc_lit (j := 6) rfl (by decide) (by decide)) rfl dX8_tarry_49 ?_
        refine lv_iload_n hx hb dX8_tarry_50 rfl (lv_at hl 2 rfl) ?_
        refine lv_iadd hx hb dX8_tarry_51 ?_
        refine nc_ist cx hw (((lModel_person_L h0)).2 j5 lj5).2 (nc_lit (j := 6) rfl (by decide) (by decide)) rfl dX8_tarry_52 (fun mi6 H locs emi6 hw => ?_)
        have hf := nc_let_at hf emi6
        refine lv_aload_n hx hb dX8_tarry_53 rfl (lv_at hl 0 rfl) ?_
        refine gr_X8_28 cx hw (lModel_is h0) (lModel_person h0) ((lModel_person_L h0)).1 dX8_tarry_54 ?_
        refine lv_iload_n hx hb dX8_tarry_57 rfl (lv_at hl 1 rfl) ?_
        refine nc_ald cx hw (by decide) ((lModel_person_L h0)).1 ij5 ej5 (((lModel_person_L h0)).2 j5 lj5).1 (((lModel_person_L h0)).2 j5 lj5).2 dX8_tarry_58 ?_
        refine lv_bipush (v := 6) hx hb dX8_tarry_59 (by decide) ?_
        refine nc_ild cx hw (((lModel_person_L h0)).2 j5 lj5).2 (nc_lit (j := 6) rfl (by decide) (by decide)) rfl dX8_tarry_61 ?_
        exact nc_rpm hret hf rfl hw dX8_tarry_62
      · have hf := nc_ifn hf c4
        refine lv_aload_n hx hb dX8_tarry_33 rfl (lv_at hl 0 rfl) ?_
        refine lv_bipush (v := (-6)) hx hb dX8_tarry_34 (by decide) ?_
        obtain ⟨q7, hq7, hf⟩ := nc_bi hf
        refine nc_callVi cx hw lk_X8_71 (c_X8_refuse l h0 mi (-6) q7 hq7) (ci := 8) rfl (lModel_is h0) rfl hl.1 rfl (Nat.le_of_ble_eq_true rfl) ⟨rfl, rfl, Nat.le_of_ble_eq_true rfl, Nat.le_of_ble_eq_true rfl⟩ dX8_tarry_36 (fun H locs hw => ?_)
        exact nc_rpm hret hf rfl hw dX8_tarry_39
    · have hf := nc_ifn hf c3
      refine lv_aload_n hx hb dX8_tarry_19 rfl (lv_at hl 0 rfl) ?_
      refine lv_bipush (v := (-4)) hx hb dX8_tarry_20 (by decide) ?_
      obtain ⟨q8, hq8, hf⟩ := nc_bi hf
      refine nc_callVi cx hw lk_X8_71 (c_X8_refuse l h0 mi (-4) q8 hq8) (ci := 8) rfl (lModel_is h0) rfl hl.1 rfl (Nat.le_of_ble_eq_true rfl) ⟨rfl, rfl, Nat.le_of_ble_eq_true rfl, Nat.le_of_ble_eq_true rfl⟩ dX8_tarry_22 (fun H locs hw => ?_)
      exact nc_rpm hret hf rfl hw dX8_tarry_25
  · have hf := nc_ifp hf c2
    refine lv_aload_n hx hb dX8_tarry_8 rfl (lv_at hl 0 rfl) ?_
    refine lv_iconst (v := (-1)) hx hb dX8_tarry_9 (by decide) ?_
    obtain ⟨q9, hq9, hf⟩ := nc_bi hf
    refine nc_callVi cx hw lk_X8_71 (c_X8_refuse l h0 mi (-1) q9 hq9) (ci := 8) rfl (lModel_is h0) rfl hl.1 rfl (Nat.le_of_ble_eq_true rfl) ⟨rfl, rfl, Nat.le_of_ble_eq_true rfl, Nat.le_of_ble_eq_true rfl⟩ dX8_tarry_10 (fun H locs hw => ?_)
    exact nc_rpm hret hf rfl hw dX8_tarry_13
abbrev rm_X8_give : Room := { frames := 2, cells := 0, slots := 0, locals := 43 }
set_option maxRecDepth 100000 in
set_option maxHeartbeats 4000000 in
theorem c_X8_give (l : Launch) {G : nc_G} {K : nc_K} {o : Nat} (h0 : nc_LModel G K o) (mi : nc_Mem) (a1 a2 : Int32) (res : nc_Mem × Int32) (hf : f_X8_give mi o a1 a2 = some res) : nc_M l yX8_give cX8_give 3 (some .int) rm_X8_give 0 0 G K K [.ref o, .int a1, .int a2] mi res.1 (some (.int res.2)) := by
  refine nc_meet_i (by decide) (Nat.le_of_ble_eq_true rfl) ?_
  intro p e s m args below meth c Q H locs ls cx hret hw hl
  have cx : nc_C p s m args c cX8_give 3 RX8 G := cx
  have hl : lv_has ls 3 [(0, .ref o), (1, .int a1), (2, .int a2)] := hl
  have hx := cx.1
  have hb := cx.2.1
  unfold f_X8_give at hf
  refine lv_aload_n hx hb dX8_give_0 rfl (lv_at hl 0 rfl) ?_
  refine lv_iload_n hx hb dX8_give_1 rfl (lv_at hl 1 rfl) ?_
  obtain ⟨q1, hq1, hf⟩ := nc_bi hf
  refine nc_callVi cx hw lk_X8_108 (c_X8_isPerson l h0 mi a1 q1 hq1) (ci := 8) rfl (lModel_is h0) rfl hl.1 rfl (Nat.le_of_ble_eq_true rfl) ⟨rfl, rfl, Nat.le_of_ble_eq_true rfl, Nat.le_of_ble_eq_true rfl⟩ dX8_give_2 (fun H locs hw => ?_)
  obtain ⟨k2, ek2, hf⟩ := nc_jn_of hf
  have hk2 : k2 = some res → ∀ (H : Heap) (locs : List Loc) (ls : Array Slot), nc_W G K mi H locs → lv_has ls 3 [(0, .ref o)] → W p l e rm_X8_give s m args below meth c H locs 0 0 Q (F0 m 16 ls []) := by
    intro hf H locs ls hw hl
    have hf := (ek2).symm.trans hf
    refine lv_aload_n hx hb dX8_give_16 rfl (lv_at hl 0 rfl) ?_
    refine lv_iconst (v := (-1)) hx hb dX8_give_17 (by decide) ?_
    obtain ⟨q3, hq3, hf⟩ := nc_bi hf
    refine nc_callVi cx hw lk_X8_71 (c_X8_refuse l h0 mi (-1) q3 hq3) (ci := 8) rfl (lModel_is h0) rfl hl.1 rfl (Nat.le_of_ble_eq_true rfl) ⟨rfl, rfl, Nat.le_of_ble_eq_true rfl, Nat.le_of_ble_eq_true rfl⟩ dX8_give_18 (fun H locs hw => ?_)
    exact nc_rpm hret hf rfl hw dX8_give_21
  refine lv_if_eq (tgt := 16) hx hb dX8_give_5 (by decide) (fun c4 => ?_) (fun c4 => ?_)
  · have hf := nc_ifp hf c4
    exact hk2 hf _ _ _ hw (lv_sub hl [0] rfl)
  · have hf := nc_ifn hf c4
    refine lv_aload_n hx hb dX8_give_8 rfl (lv_at hl 0 rfl) ?_
    refine lv_iload_n hx hb dX8_give_9 rfl (lv_at hl 2 rfl) ?_
    obtain ⟨q5, hq5, hf⟩ := nc_bi hf
    refine nc_callVi cx hw lk_X8_145 (c_X8_isThing l h0 mi a2 q5 hq5) (ci := 8) rfl (lModel_is h0) rfl hl.1 rfl (Nat.le_of_ble_eq_true rfl) ⟨rfl, rfl, Nat.le_of_ble_eq_true rfl, Nat.le_of_ble_eq_true rfl⟩ dX8_give_10 (fun H locs hw => ?_)
    refine lv_if_ne (tgt := 22) hx hb dX8_give_13 (by decide) (fun c6 => ?_) (fun c6 => ?_)
    · have hf := nc_ifn hf c6
      refine lv_aload_n hx hb dX8_give_22 rfl (lv_at hl 0 rfl) ?_
      refine lv_iload_n hx hb dX8_give_23 rfl (lv_at hl 1 rfl) ?_
      refine lv_iload_n hx hb dX8_give_24 rfl (lv_at hl 2 rfl) ?_
      obtain ⟨q7, hq7, hf⟩ := nc_bi hf
      refine nc_callVi cx hw lk_X8_151 (c_X8_isOwner l h0 mi a1 a2 q7 hq7) (ci := 8) rfl (lModel_is h0) rfl hl.1 rfl (Nat.le_of_ble_eq_true rfl) ⟨rfl, rfl, Nat.le_of_ble_eq_true rfl, Nat.le_of_ble_eq_true rfl⟩ dX8_give_25 (fun H locs hw => ?_)
      refine lv_if_ne (tgt := 38) hx hb dX8_give_28 (by decide) (fun c8 => ?_) (fun c8 => ?_)
      · have hf := nc_ifn hf c8
        refine lv_aload_n hx hb dX8_give_38 rfl (lv_at hl 0 rfl) ?_
        refine gr_X8_31 cx hw (lModel_is h0) (lModel_thing h0) ((lModel_thing_L h0)).1 dX8_give_39 ?_
        refine lv_iload_n hx hb dX8_give_42 rfl (lv_at hl 2 rfl) ?_
        obtain ⟨j9, ej9, ij9, lj9, hf⟩ := nc_ix hf
        refine nc_ald cx hw (by decide) ((lModel_thing_L h0)).1 ij9 ej9 (((lModel_thing_L h0)).2 j9 lj9).1 (((lModel_thing_L h0)).2 j9 lj9).2 dX8_give_43 ?_
        refine lv_bipush (v := 9) hx hb dX8_give_44 (by decide) ?_
        refine lv_aload_n hx hb dX8_give_46 rfl (lv_at hl 0 rfl) ?_
        refine gr_X8_28 cx hw (lModel_is h0) (lModel_person h0) ((lModel_person_L h0)).1 dX8_give_47 ?_
        refine lv_iload_n hx hb dX8_give_50 rfl (lv_at hl 1 rfl) ?_
        obtain ⟨j10, ej10, ij10, lj10, hf⟩ := nc_ix hf
        refine nc_ald cx hw (by decide) ((lModel_person_L h0)).1 ij10 ej10 (((lModel_person_L h0)).2 j10 lj10).1 (((lModel_person_L h0)).2 j10 lj10).2 dX8_give_51 ?_
        refine lv_bipush (v := 6) hx hb dX8_give_52 (by decide) ?_
        refine nc_ild cx hw (((lModel_person_L h0)).2 j10 lj10).2 (nc_lit (j := 6) rfl (by decide) (by decide)) rfl dX8_give_54 ?_
        refine nc_ist cx hw (((lModel_thing_L h0)).2 j9 lj9).2 (nc_lit (j := 9) rfl (by decide) (by decide)) rfl dX8_give_55 (fun mi11 H locs emi11 hw => ?_)
        have hf := nc_let_at hf emi11
        refine lv_aload_n hx hb dX8_give_56 rfl (lv_at hl 0 rfl) ?_
        refine gr_X8_28 cx hw (lModel_is h0) (lModel_person h0) ((lModel_person_L h0)).1 dX8_give_57 ?_
        refine lv_iload_n hx hb dX8_give_60 rfl (lv_at hl 1 rfl) ?_
        refine nc_ald cx hw (by decide) ((lModel_person_L h0)).1 ij10 ej10 (((lModel_person_L h0)).2 j10 lj10).1 (((lModel_person_L h0)).2 j10 lj10).2 dX8_give_61 ?_
        refine lv_bipush (v := 6) hx hb dX8_give_62 (by decide) ?_
        refine nc_ild cx hw (((lModel_person_L h0)).2 j10 lj10).2 (nc_lit (j := 6) rfl (by decide) (by decide)) rfl dX8_give_64 ?_
        exact nc_rpm hret hf rfl hw dX8_give_65
      · have hf := nc_ifp hf c8
        refine lv_aload_n hx hb dX8_give_31 rfl (lv_at hl 0 rfl) ?_
        refine lv_bipush (v := (-3)) hx hb dX8_give_32 (by decide) ?_
        obtain ⟨q12, hq12, hf⟩ := nc_bi hf
        refine nc_callVi cx hw lk_X8_71 (c_X8_refuse l h0 mi (-3) q12 hq12) (ci := 8) rfl (lModel_is h0) rfl hl.1 rfl (Nat.le_of_ble_eq_true rfl) ⟨rfl, rfl, Nat.le_of_ble_eq_true rfl, Nat.le_of_ble_eq_true rfl⟩ dX8_give_34 (fun H locs hw => ?_)
        exact nc_rpm hret hf rfl hw dX8_give_37
    · have hf := nc_ifp hf c6
      exact hk2 hf _ _ _ hw (lv_sub hl [0] rfl)
abbrev rm_X8_there : Room := { frames := 0, cells := 0, slots := 0, locals := 0 }
set_option maxRecDepth 100000 in
set_option maxHeartbeats 4000000 in
theorem c_X8_there (l : Launch) {G : nc_G} {K : nc_K} {o : Nat} (h0 : nc_LModel G K o) (mi : nc_Mem)  (res : Int32) (hf : f_X8_there mi o = some res) : nc_M l yX8_there cX8_there 3 (some .int) rm_X8_there 0 0 G K K [.ref o] mi mi (some (.int res)) := by
  refine nc_meet_i (by decide) (Nat.le_of_ble_eq_true rfl) ?_
  intro p e s m args below meth c Q H locs ls cx hret hw hl
  have cx : nc_C p s m args c cX8_there 3 RX8 G := cx
  have hl : lv_has ls 3 [(0, .ref o)] := hl
  have hx := cx.1
  have hb := cx.2.1
  unfold f_X8_there at hf
  refine lv_iconst (v := 0) hx hb dX8_there_0 (by decide) ?_
  refine lv_istore_n (lv' := [(1, .int 0), (0, .ref o)]) hx hb dX8_there_1 rfl hl (by decide) rfl (fun ls hl => ?_)
  refine lv_iconst (v := 0) hx hb dX8_there_2 (by decide) ?_
  refine lv_istore_n (lv' := [(2, .int 0), (1, .int 0), (0, .ref o)]) hx hb dX8_there_3 rfl hl (by decide) rfl (fun ls hl => ?_)
  refine nc_loop_w (P := fun κ : Int32 → Int32 → Option (Int32) => ∀ (x1 : Int32) (x2 : Int32), κ x1 x2 = some res → ∀ (H : Heap) (locs : List Loc) (ls : Array Slot), nc_W G K mi H locs → lv_has ls 3 [(0, .ref o), (1, .int x1), (2, .int x2)] → W p l e rm_X8_there s m args below meth c H locs 0 0 Q (F0 m 4 ls [])) ?_ ?_ 200 _ _ hf _ _ _ hw (lv_sub hl [2, 1, 0] rfl)
  · intro x1 x2 hf; exact absurd hf (by intro q; cases q)
  · intro rc3 ihrc3 x1 x2 hf H locs ls hw hl
    unfold B_X8_there_4 at hf
    refine lv_iload_n hx hb dX8_there_4 rfl (lv_at hl 2 rfl) ?_
    refine lv_aload_n hx hb dX8_there_5 rfl (lv_at hl 0 rfl) ?_
    refine gi_X8_68 cx hw (lModel_is h0) dX8_there_6 ?_
    refine lv_icmp_ge (tgt := 66) hx hb dX8_there_9 (by decide) (fun c4 => ?_) (fun c4 => ?_)
    · have hf := nc_ifp hf c4
      refine lv_iload_n hx hb dX8_there_66 rfl (lv_at hl 1 rfl) ?_
      exact nc_rpp hret hf rfl hw dX8_there_67
    · have hf := nc_ifn hf c4
      refine lv_iload_n hx hb dX8_there_12 rfl (lv_at hl 1 rfl) ?_
      refine lv_aload_n hx hb dX8_there_13 rfl (lv_at hl 0 rfl) ?_
      refine gr_X8_31 cx hw (lModel_is h0) (lModel_thing h0) ((lModel_thing_L h0)).1 dX8_there_14 ?_
      refine lv_iload_n hx hb dX8_there_17 rfl (lv_at hl 2 rfl) ?_
      obtain ⟨j5, ej5, ij5, lj5, hf⟩ := nc_ix hf
      refine nc_ald cx hw (by decide) ((lModel_thing_L h0)).1 ij5 ej5 (((lModel_thing_L h0)).2 j5 lj5).1 (((lModel_thing_L h0)).2 j5 lj5).2 dX8_there_18 ?_
      refine lv_bipush (v := 7) hx hb dX8_there_19 (by decide) ?_
      refine nc_ild cx hw (((lModel_thing_L h0)).2 j5 lj5).2 (nc_lit (j := 7) rfl (by decide) (by decide)) rfl dX8_there_21 ?_
      refine lv_aload_n hx hb dX8_there_22 rfl (lv_at hl 0 rfl) ?_
      refine gr_X8_31 cx hw (lModel_is h0) (lModel_thing h0) ((lModel_thing_L h0)).1 dX8_there_23 ?_
      refine lv_iload_n hx hb dX8_there_26 rfl (lv_at hl 2 rfl) ?_
      refine nc_ald cx hw (by decide) ((lModel_thing_L h0)).1 ij5 ej5 (((lModel_thing_L h0)).2 j5 lj5).1 (((lModel_thing_L h0)).2 j5 lj5).2 dX8_there_27 ?_
      refine lv_iconst (v := 3) hx hb dX8_there_28 (by decide) ?_
      refine nc_ild cx hw (((lModel_thing_L h0)).2 j5 lj5).2 (nc_lit (j := 3) rfl (by decide) (by decide)) rfl dX8_there_29 ?_
      refine lv_icmp_ne (tgt := 57) hx hb dX8_there_30 (by decide) (fun c6 => ?_) (fun c6 => ?_)
      · have hf := nc_ifn hf c6
        refine lv_iconst (v := 0) hx hb dX8_there_57 (by decide) ?_
        refine lv_iadd hx hb dX8_there_58 ?_
        refine lv_topi (fun x7 ex7 => ?_)
        have hf := nc_let_at hf ex7
        refine lv_istore_n (lv' := [(1, .int x7), (0, .ref o), (2, .int x2)]) hx hb dX8_there_59 rfl hl (by decide) rfl (fun ls hl => ?_)
        obtain ⟨x8, ex8⟩ : ∃ y : Int32, y = x2 + 1 := ⟨_, rfl⟩
        have hf := nc_let_at hf ex8
        refine lv_iinc (v := x8) (lv' := [(2, .int x8), (1, .int x7), (0, .ref o)]) hx hb dX8_there_60 hl (k := 2) rfl (by rw [ex8]; rfl) (by decide) rfl (fun ls hl => ?_)
        refine lv_goto (tgt := 4) hx hb dX8_there_63 (by decide) ?_
        exact ihrc3 _ _ hf _ _ _ hw (lv_sub hl [2, 1, 0] rfl)
      · have hf := nc_ifp hf c6
        refine lv_aload_n hx hb dX8_there_33 rfl (lv_at hl 0 rfl) ?_
        refine gr_X8_31 cx hw (lModel_is h0) (lModel_thing h0) ((lModel_thing_L h0)).1 dX8_there_34 ?_
        refine lv_iload_n hx hb dX8_there_37 rfl (lv_at hl 2 rfl) ?_
        refine nc_ald cx hw (by decide) ((lModel_thing_L h0)).1 ij5 ej5 (((lModel_thing_L h0)).2 j5 lj5).1 (((lModel_thing_L h0)).2 j5 lj5).2 dX8_there_38 ?_
        refine lv_bipush (v := 8) hx hb dX8_there_39 (by decide) ?_
        refine nc_ild cx hw (((lModel_thing_L h0)).2 j5 lj5).2 (nc_lit (j := 8) rfl (by decide) (by decide)) rfl dX8_there_41 ?_
        refine lv_aload_n hx hb dX8_there_42 rfl (lv_at hl 0 rfl) ?_
        refine gr_X8_31 cx hw (lModel_is h0) (lModel_thing h0) ((lModel_thing_L h0)).1 dX8_there_43 ?_
        refine lv_iload_n hx hb dX8_there_46 rfl (lv_at hl 2 rfl) ?_
        refine nc_ald cx hw (by decide) ((lModel_thing_L h0)).1 ij5 ej5 (((lModel_thing_L h0)).2 j5 lj5).1 (((lModel_thing_L h0)).2 j5 lj5).2 dX8_there_47 ?_
        refine lv_iconst (v := 5) hx hb dX8_there_48 (by decide) ?_
        refine nc_ild cx hw (((lModel_thing_L h0)).2 j5 lj5).2 (nc_lit (j := 5) rfl (by decide) (by decide)) rfl dX8_there_49 ?_
        refine lv_icmp_gt (tgt := 57) hx hb dX8_there_50 (by decide) (fun c9 => ?_) (fun c9 => ?_)
        · have hf := nc_ifp hf c9
          refine lv_iconst (v := 0) hx hb dX8_there_57 (by decide) ?_
          refine lv_iadd hx hb dX8_there_58 ?_
          refine lv_topi (fun x10 ex10 => ?_)
          have hf := nc_let_at hf ex10
          refine lv_istore_n (lv' := [(1, .int x10), (0, .ref o), (2, .int x2)]) hx hb dX8_there_59 rfl hl (by decide) rfl (fun ls hl => ?_)
          obtain ⟨x11, ex11⟩ : ∃ y : Int32, y = x2 + 1 := ⟨_, rfl⟩
          have hf := nc_let_at hf ex11
          refine lv_iinc (v := x11) (lv' := [(2, .int x11), (1, .int x10), (0, .ref o)]) hx hb dX8_there_60 hl (k := 2) rfl (by rw [ex11]; rfl) (by decide) rfl (fun ls hl => ?_)
          refine lv_goto (tgt := 4) hx hb dX8_there_63 (by decide) ?_
          exact ihrc3 _ _ hf _ _ _ hw (lv_sub hl [2, 1, 0] rfl)
        · have hf := nc_ifn hf c9
          refine lv_iconst (v := 1) hx hb dX8_there_53 (by decide) ?_
          refine lv_goto (tgt := 58) hx hb dX8_there_54 (by decide) ?_
          refine lv_iadd hx hb dX8_there_58 ?_
          refine lv_topi (fun x12 ex12 => ?_)
          have hf := nc_let_at hf ex12
          refine lv_istore_n (lv' := [(1, .int x12), (0, .ref o), (2, .int x2)]) hx hb dX8_there_59 rfl hl (by decide) rfl (fun ls hl => ?_)
          obtain ⟨x13, ex13⟩ : ∃ y : Int32, y = x2 + 1 := ⟨_, rfl⟩
          have hf := nc_let_at hf ex13
          refine lv_iinc (v := x13) (lv' := [(2, .int x13), (1, .int x12), (0, .ref o)]) hx hb dX8_there_60 hl (k := 2) rfl (by rw [ex13]; rfl) (by decide) rfl (fun ls hl => ?_)
          refine lv_goto (tgt := 4) hx hb dX8_there_63 (by decide) ?_
          exact ihrc3 _ _ hf _ _ _ hw (lv_sub hl [2, 1, 0] rfl)
abbrev rm_X8_findWays : Room := { frames := 1, cells := 0, slots := 0, locals := 24 }
set_option maxRecDepth 100000 in
set_option maxHeartbeats 4000000 in
theorem c_X8_findWays (l : Launch) {G : nc_G} {K : nc_K} {o : Nat} (h0 : nc_LModel G K o) (mi : nc_Mem)  (res : nc_Mem) (hf : f_X8_findWays mi o = some res) : nc_M l yX8_findWays cX8_findWays 6 none rm_X8_findWays 0 0 G K K [.ref o] mi res none := by
  refine nc_meet_v (by decide) (Nat.le_of_ble_eq_true rfl) ?_
  intro p e s m args below meth c Q H locs ls cx hret hw hl
  have cx : nc_C p s m args c cX8_findWays 6 RX8 G := cx
  have hl : lv_has ls 6 [(0, .ref o)] := hl
  have hx := cx.1
  have hb := cx.2.1
  unfold f_X8_findWays at hf
  refine lv_aload_n hx hb dX8_findWays_0 rfl (lv_at hl 0 rfl) ?_
  obtain ⟨q1, hq1, hf⟩ := nc_bi hf
  refine nc_callVv cx hw lk_X8_139 (c_X8_findFar l h0 mi  q1 hq1) (ci := 8) rfl (lModel_is h0) rfl hl.1 rfl (Nat.le_of_ble_eq_true rfl) ⟨rfl, rfl, Nat.le_of_ble_eq_true rfl, Nat.le_of_ble_eq_true rfl⟩ dX8_findWays_1 (fun H locs hw => ?_)
  refine lv_iconst (v := 0) hx hb dX8_findWays_4 (by decide) ?_
  refine lv_istore_n (lv' := [(1, .int 0), (0, .ref o)]) hx hb dX8_findWays_5 rfl hl (by decide) rfl (fun ls hl => ?_)
  refine nc_loop_w (P := fun κ : Int32 → nc_Mem → Option (nc_Mem) => ∀ (x2 : Int32) (mi3 : nc_Mem), κ x2 mi3 = some res → ∀ (H : Heap) (locs : List Loc) (ls : Array Slot), nc_W G K mi3 H locs → lv_has ls 6 [(0, .ref o), (1, .int x2)] → W p l e rm_X8_findWays s m args below meth c H locs 0 0 Q (F0 m 6 ls [])) ?_ ?_ 200 _ _ hf _ _ _ hw (lv_sub hl [1, 0] rfl)
  · intro x2 mi3 hf; exact absurd hf (by intro q; cases q)
  · intro rc4 ihrc4 x2 mi3 hf H locs ls hw hl
    unfold B_X8_findWays_6 at hf
    refine lv_iload_n hx hb dX8_findWays_6 rfl (lv_at hl 1 rfl) ?_
    refine lv_aload_n hx hb dX8_findWays_7 rfl (lv_at hl 0 rfl) ?_
    refine gi_X8_65 cx hw (lModel_is h0) dX8_findWays_8 ?_
    refine lv_icmp_ge (tgt := 210) hx hb dX8_findWays_11 (by decide) (fun c5 => ?_) (fun c5 => ?_)
    · have hf := nc_ifp hf c5
      exact nc_vpm hret hf hw dX8_findWays_210
    · have hf := nc_ifn hf c5
      refine lv_aload_n hx hb dX8_findWays_14 rfl (lv_at hl 0 rfl) ?_
      refine gr_X8_28 cx hw (lModel_is h0) (lModel_person h0) ((lModel_person_L h0)).1 dX8_findWays_15 ?_
      refine lv_iload_n hx hb dX8_findWays_18 rfl (lv_at hl 1 rfl) ?_
      obtain ⟨j6, ej6, ij6, lj6, hf⟩ := nc_ix hf
      refine nc_ald cx hw (by decide) ((lModel_person_L h0)).1 ij6 ej6 (((lModel_person_L h0)).2 j6 lj6).1 (((lModel_person_L h0)).2 j6 lj6).2 dX8_findWays_19 ?_
      refine lv_iconst (v := 0) hx hb dX8_findWays_20 (by decide) ?_
      refine nc_ild cx hw (((lModel_person_L h0)).2 j6 lj6).2 (nc_lit (j := 0) rfl (by decide) (by decide)) rfl dX8_findWays_21 ?_
      refine lv_topi (fun x7 ex7 => ?_)
      have hf := nc_let_at hf ex7
      refine lv_istore_n (lv' := [(2, .int x7), (0, .ref o), (1, .int x2)]) hx hb dX8_findWays_22 rfl hl (by decide) rfl (fun ls hl => ?_)
      refine lv_aload_n hx hb dX8_findWays_23 rfl (lv_at hl 1 rfl) ?_
      refine gr_X8_28 cx hw (lModel_is h0) (lModel_person h0) ((lModel_person_L h0)).1 dX8_findWays_24 ?_
      refine lv_iload_n hx hb dX8_findWays_27 rfl (lv_at hl 2 rfl) ?_
      refine nc_ald cx hw (by decide) ((lModel_person_L h0)).1 ij6 ej6 (((lModel_person_L h0)).2 j6 lj6).1 (((lModel_person_L h0)).2 j6 lj6).2 dX8_findWays_28 ?_
      refine lv_iconst (v := 1) hx hb dX8_findWays_29 (by decide) ?_
      refine nc_ild cx hw (((lModel_person_L h0)).2 j6 lj6).2 (nc_lit (j := 1) rfl (by decide) (by decide)) rfl dX8_findWays_30 ?_
      refine lv_topi (fun x8 ex8 => ?_)
      have hf := nc_let_at hf ex8
      refine lv_istore_n (lv' := [(3, .int x8), (2, .int x7), (0, .ref o), (1, .int x2)]) hx hb dX8_findWays_31 rfl hl (by decide) rfl (fun ls hl => ?_)
      refine lv_aload_n hx hb dX8_findWays_32 rfl (lv_at hl 2 rfl) ?_
      refine gr_X8_28 cx hw (lModel_is h0) (lModel_person h0) ((lModel_person_L h0)).1 dX8_findWays_33 ?_
      refine lv_iload_n hx hb dX8_findWays_36 rfl (lv_at hl 3 rfl) ?_
      refine nc_ald cx hw (by decide) ((lModel_person_L h0)).1 ij6 ej6 (((lModel_person_L h0)).2 j6 lj6).1 (((lModel_person_L h0)).2 j6 lj6).2 dX8_findWays_37 ?_
      refine lv_iconst (v := 2) hx hb dX8_findWays_38 (by decide) ?_
      refine nc_ild cx hw (((lModel_person_L h0)).2 j6 lj6).2 (nc_lit (j := 2) rfl (by decide) (by decide)) rfl dX8_findWays_39 ?_
      refine lv_topi (fun x9 ex9 => ?_)
      have hf := nc_let_at hf ex9
      refine lv_istore (lv' := [(4, .int x9), (3, .int x8), (2, .int x7), (0, .ref o), (1, .int x2)]) hx hb dX8_findWays_40 hl (by decide) rfl (fun ls hl => ?_)
      refine lv_aload_n hx hb dX8_findWays_42 rfl (lv_at hl 3 rfl) ?_
      refine gr_X8_46 cx hw (lModel_is h0) (lModel_stops h0) (lModel_stops_L h0) dX8_findWays_43 ?_
      refine lv_iload_n hx hb dX8_findWays_46 rfl (lv_at hl 4 rfl) ?_
      refine lv_iconst (v := 0) hx hb dX8_findWays_47 (by decide) ?_
      refine nc_ist cx hw (lModel_stops_L h0) ij6 ej6 dX8_findWays_48 (fun mi10 H locs emi10 hw => ?_)
      have hf := nc_let_at hf emi10
      refine lv_aload_n hx hb dX8_findWays_49 rfl (lv_at hl 3 rfl) ?_
      refine gr_X8_37 cx hw (lModel_is h0) (lModel_far h0) ((lModel_far_L h0)).1 dX8_findWays_50 ?_
      refine lv_iload_n hx hb dX8_findWays_53 rfl (lv_at hl 2 rfl) ?_
      obtain ⟨j11, ej11, ij11, lj11, hf⟩ := nc_ix hf
      refine nc_ald cx hw (by decide) ((lModel_far_L h0)).1 ij11 ej11 (((lModel_far_L h0)).2 j11 lj11).1 (((lModel_far_L h0)).2 j11 lj11).2 dX8_findWays_54 ?_
      refine lv_iload_n hx hb dX8_findWays_55 rfl (lv_at hl 1 rfl) ?_
      obtain ⟨j12, ej12, ij12, lj12, hf⟩ := nc_ix hf
      refine nc_ild cx hw (((lModel_far_L h0)).2 j11 lj11).2 ij12 ej12 dX8_findWays_56 ?_
      refine nc_ldc (v := 100000) cx kc_X8_138 dX8_findWays_57 ?_
      refine lv_icmp_ge (tgt := 204) hx hb dX8_findWays_59 (by decide) (fun c13 => ?_) (fun c13 => ?_)
      · have hf := nc_ifp hf c13
        obtain ⟨x14, ex14⟩ : ∃ y : Int32, y = x2 + 1 := ⟨_, rfl⟩
        have hf := nc_let_at hf ex14
        refine lv_iinc (v := x14) (lv' := [(1, .int x14), (4, .int x9), (3, .int x8), (2, .int x7), (0, .ref o)]) hx hb dX8_findWays_204 hl (k := 4) rfl (by rw [ex14]; rfl) (by decide) rfl (fun ls hl => ?_)
        refine lv_goto (tgt := 6) hx hb dX8_findWays_207 (by decide) ?_
        exact ihrc4 _ _ hf _ _ _ hw (lv_sub hl [4, 0] rfl)
      · have hf := nc_ifn hf c13
        refine lv_aload_n hx hb dX8_findWays_62 rfl (lv_at hl 3 rfl) ?_
        refine gr_X8_40 cx hw (lModel_is h0) (lModel_stop h0) ((lModel_stop_L h0)).1 dX8_findWays_63 ?_
        refine lv_iload_n hx hb dX8_findWays_66 rfl (lv_at hl 4 rfl) ?_
        refine nc_ald cx hw (by decide) ((lModel_stop_L h0)).1 ij6 ej6 (((lModel_stop_L h0)).2 j6 lj6).1 (((lModel_stop_L h0)).2 j6 lj6).2 dX8_findWays_67 ?_
        refine lv_iconst (v := 0) hx hb dX8_findWays_68 (by decide) ?_
        refine lv_iload_n hx hb dX8_findWays_69 rfl (lv_at hl 2 rfl) ?_
        refine nc_ist cx hw (((lModel_stop_L h0)).2 j6 lj6).2 (nc_lit (j := 0) rfl (by decide) (by decide)) rfl dX8_findWays_70 (fun mi15 H locs emi15 hw => ?_)
        have hf := nc_let_at hf emi15
        refine lv_aload_n hx hb dX8_findWays_71 rfl (lv_at hl 3 rfl) ?_
        refine gr_X8_43 cx hw (lModel_is h0) (lModel_when h0) ((lModel_when_L h0)).1 dX8_findWays_72 ?_
        refine lv_iload_n hx hb dX8_findWays_75 rfl (lv_at hl 4 rfl) ?_
        refine nc_ald cx hw (by decide) ((lModel_when_L h0)).1 ij6 ej6 (((lModel_when_L h0)).2 j6 lj6).1 (((lModel_when_L h0)).2 j6 lj6).2 dX8_findWays_76 ?_
        refine lv_iconst (v := 0) hx hb dX8_findWays_77 (by decide) ?_
        refine lv_iload hx hb dX8_findWays_78 (lv_at hl 0 rfl) ?_
        refine nc_ist cx hw (((lModel_when_L h0)).2 j6 lj6).2 (nc_lit (j := 0) rfl (by decide) (by decide)) rfl dX8_findWays_80 (fun mi16 H locs emi16 hw => ?_)
        have hf := nc_let_at hf emi16
        refine lv_aload_n hx hb dX8_findWays_81 rfl (lv_at hl 3 rfl) ?_
        refine gr_X8_46 cx hw (lModel_is h0) (lModel_stops h0) (lModel_stops_L h0) dX8_findWays_82 ?_
        refine lv_iload_n hx hb dX8_findWays_85 rfl (lv_at hl 4 rfl) ?_
        refine lv_iconst (v := 1) hx hb dX8_findWays_86 (by decide) ?_
        refine nc_ist cx hw (lModel_stops_L h0) ij6 ej6 dX8_findWays_87 (fun mi17 H locs emi17 hw => ?_)
        have hf := nc_let_at hf emi17
        refine nc_loop_w (P := fun κ : Int32 → Int32 → nc_Mem → Option (nc_Mem) => ∀ (x18 : Int32) (x19 : Int32) (mi20 : nc_Mem), κ x18 x19 mi20 = some res → ∀ (H : Heap) (locs : List Loc) (ls : Array Slot), nc_W G K mi20 H locs → lv_has ls 6 [(0, .ref o), (1, .int x2), (2, .int x18), (3, .int x8), (4, .int x19)] → W p l e rm_X8_findWays s m args below meth c H locs 0 0 Q (F0 m 88 ls [])) ?_ ?_ 200 _ _ _ hf _ _ _ hw (lv_sub hl [3, 4, 2, 1, 0] rfl)
        · intro x18 x19 mi20 hf; exact absurd hf (by intro q; cases q)
        · intro rc21 ihrc21 x18 x19 mi20 hf H locs ls hw hl
          unfold B_X8_findWays_88 at hf
          refine lv_iload_n hx hb dX8_findWays_88 rfl (lv_at hl 2 rfl) ?_
          refine lv_iload_n hx hb dX8_findWays_89 rfl (lv_at hl 3 rfl) ?_
          refine lv_icmp_eq (tgt := 204) hx hb dX8_findWays_90 (by decide) (fun c22 => ?_) (fun c22 => ?_)
          · have hf := nc_ifp hf c22
            obtain ⟨x23, ex23⟩ : ∃ y : Int32, y = x2 + 1 := ⟨_, rfl⟩
            have hf := nc_let_at hf ex23
            refine lv_iinc (v := x23) (lv' := [(1, .int x23), (0, .ref o), (2, .int x18), (3, .int x8), (4, .int x19)]) hx hb dX8_findWays_204 hl (k := 1) rfl (by rw [ex23]; rfl) (by decide) rfl (fun ls hl => ?_)
            refine lv_goto (tgt := 6) hx hb dX8_findWays_207 (by decide) ?_
            exact ihrc4 _ _ hf _ _ _ hw (lv_sub hl [1, 0] rfl)
          · have hf := nc_ifn hf c22
            refine lv_iconst (v := 0) hx hb dX8_findWays_93 (by decide) ?_
            refine lv_istore (lv' := [(5, .int 0), (0, .ref o), (1, .int x2), (2, .int x18), (3, .int x8), (4, .int x19)]) hx hb dX8_findWays_94 hl (by decide) rfl (fun ls hl => ?_)
            obtain ⟨k24, ek24, hf⟩ := nc_jn_of hf
            have hk24 : ∀ (x25 : Int32), k24 x25 = some res → ∀ (H : Heap) (locs : List Loc) (ls : Array Slot), nc_W G K mi20 H locs → lv_has ls 6 [(0, .ref o), (1, .int x2), (2, .int x18), (3, .int x8), (4, .int x19), (5, .int x25)] → W p l e rm_X8_findWays s m args below meth c H locs 0 0 Q (F0 m 150 ls []) := by
              intro x25 hf H locs ls hw hl
              have hf := ((congrFun ek24 x25)).symm.trans hf
              refine lv_iload hx hb dX8_findWays_150 (lv_at hl 4 rfl) ?_
              refine lv_aload_n hx hb dX8_findWays_152 rfl (lv_at hl 0 rfl) ?_
              refine gr_X8_25 cx hw (lModel_is h0) (lModel_way h0) ((lModel_way_L h0)).1 dX8_findWays_153 ?_
              refine lv_iload_n hx hb dX8_findWays_156 rfl (lv_at hl 2 rfl) ?_
              obtain ⟨j26, ej26, ij26, lj26, hf⟩ := nc_ix hf
              refine nc_ald cx hw (by decide) ((lModel_way_L h0)).1 ij26 ej26 (((lModel_way_L h0)).2 j26 lj26).1 (((lModel_way_L h0)).2 j26 lj26).2 dX8_findWays_157 ?_
              refine lv_iload hx hb dX8_findWays_158 (lv_at hl 5 rfl) ?_
              obtain ⟨j27, ej27, ij27, lj27, hf⟩ := nc_ix hf
              refine nc_ild cx hw (((lModel_way_L h0)).2 j26 lj26).2 ij27 ej27 dX8_findWays_160 ?_
              refine lv_iadd hx hb dX8_findWays_161 ?_
              refine lv_topi (fun x28 ex28 => ?_)
              have hf := nc_let_at hf ex28
              refine lv_istore (lv' := [(4, .int x28), (0, .ref o), (1, .int x2), (2, .int x18), (3, .int x8), (5, .int x25)]) hx hb dX8_findWays_162 hl (by decide) rfl (fun ls hl => ?_)
              refine lv_iload hx hb dX8_findWays_164 (lv_at hl 5 rfl) ?_
              refine lv_istore_n (lv' := [(2, .int x25), (4, .int x28), (0, .ref o), (1, .int x2), (3, .int x8), (5, .int x25)]) hx hb dX8_findWays_166 rfl hl (by decide) rfl (fun ls hl => ?_)
              refine lv_aload_n hx hb dX8_findWays_167 rfl (lv_at hl 2 rfl) ?_
              refine gr_X8_40 cx hw (lModel_is h0) (lModel_stop h0) ((lModel_stop_L h0)).1 dX8_findWays_168 ?_
              refine lv_iload_n hx hb dX8_findWays_171 rfl (lv_at hl 3 rfl) ?_
              refine nc_ald cx hw (by decide) ((lModel_stop_L h0)).1 ij6 ej6 (((lModel_stop_L h0)).2 j6 lj6).1 (((lModel_stop_L h0)).2 j6 lj6).2 dX8_findWays_172 ?_
              refine lv_aload_n hx hb dX8_findWays_173 rfl (lv_at hl 2 rfl) ?_
              refine gr_X8_46 cx hw (lModel_is h0) (lModel_stops h0) (lModel_stops_L h0) dX8_findWays_174 ?_
              refine lv_iload_n hx hb dX8_findWays_177 rfl (lv_at hl 3 rfl) ?_
              refine nc_ild cx hw (lModel_stops_L h0) ij6 ej6 dX8_findWays_178 ?_
              refine lv_iload_n hx hb dX8_findWays_179 rfl (lv_at hl 0 rfl) ?_
              obtain ⟨j29, ej29, ij29, lj29, hf⟩ := nc_ix hf
              refine nc_ist cx hw (((lModel_stop_L h0)).2 j6 lj6).2 ij29 ej29 dX8_findWays_180 (fun mi30 H locs emi30 hw => ?_)
              have hf := nc_let_at hf emi30
              refine lv_aload_n hx hb dX8_findWays_181 rfl (lv_at hl 2 rfl) ?_
              refine gr_X8_43 cx hw (lModel_is h0) (lModel_when h0) ((lModel_when_L h0)).1 dX8_findWays_182 ?_
              refine lv_iload_n hx hb dX8_findWays_185 rfl (lv_at hl 3 rfl) ?_
              refine nc_ald cx hw (by decide) ((lModel_when_L h0)).1 ij6 ej6 (((lModel_when_L h0)).2 j6 lj6).1 (((lModel_when_L h0)).2 j6 lj6).2 dX8_findWays_186 ?_
              refine lv_aload_n hx hb dX8_findWays_187 rfl (lv_at hl 2 rfl) ?_
              refine gr_X8_46 cx hw (lModel_is h0) (lModel_stops h0) (lModel_stops_L h0) dX8_findWays_188 ?_
              refine lv_iload_n hx hb dX8_findWays_191 rfl (lv_at hl 3 rfl) ?_
              refine lv_dup2_11 hx hb dX8_findWays_192 rfl rfl ?_
              refine nc_ild cx hw (lModel_stops_L h0) ij6 ej6 dX8_findWays_193 ?_
              refine lv_dup_x2 hx hb dX8_findWays_194 rfl rfl rfl ?_
              refine lv_iconst (v := 1) hx hb dX8_findWays_195 (by decide) ?_
              refine lv_iadd hx hb dX8_findWays_196 ?_
              refine nc_ist cx hw (lModel_stops_L h0) ij6 ej6 dX8_findWays_197 (fun mi31 H locs emi31 hw => ?_)
              have hf := nc_let_at hf emi31
              refine lv_iload hx hb dX8_findWays_198 (lv_at hl 1 rfl) ?_
              obtain ⟨j32, ej32, ij32, lj32, hf⟩ := nc_ix hf
              refine nc_ist cx hw (((lModel_when_L h0)).2 j6 lj6).2 ij32 ej32 dX8_findWays_200 (fun mi33 H locs emi33 hw => ?_)
              have hf := nc_let_at hf emi33
              refine lv_goto (tgt := 88) hx hb dX8_findWays_201 (by decide) ?_
              exact ihrc21 _ _ _ hf _ _ _ hw (lv_sub hl [2, 3, 0, 4, 1] rfl)
            refine nc_loop_w (P := fun κ : Int32 → Option (nc_Mem) => ∀ (x34 : Int32), κ x34 = some res → ∀ (H : Heap) (locs : List Loc) (ls : Array Slot), nc_W G K mi20 H locs → lv_has ls 6 [(0, .ref o), (1, .int x2), (2, .int x18), (3, .int x8), (4, .int x19), (5, .int x34)] → W p l e rm_X8_findWays s m args below meth c H locs 0 0 Q (F0 m 96 ls [])) ?_ ?_ 200 _ hf _ _ _ hw (lv_sub hl [1, 2, 3, 4, 5, 0] rfl)
            · intro x34 hf; exact absurd hf (by intro q; cases q)
            · intro rc35 ihrc35 x34 hf H locs ls hw hl
              unfold B_X8_findWays_96 at hf
              refine lv_iload hx hb dX8_findWays_96 (lv_at hl 5 rfl) ?_
              refine lv_iload_n hx hb dX8_findWays_98 rfl (lv_at hl 2 rfl) ?_
              refine lv_icmp_eq (tgt := 144) hx hb dX8_findWays_99 (by decide) (fun c36 => ?_) (fun c36 => ?_)
              · have hf := nc_ifp hf c36
                obtain ⟨x37, ex37⟩ : ∃ y : Int32, y = x34 + 1 := ⟨_, rfl⟩
                have hf := nc_let_at hf ex37
                refine lv_iinc (v := x37) (lv' := [(5, .int x37), (0, .ref o), (1, .int x2), (2, .int x18), (3, .int x8), (4, .int x19)]) hx hb dX8_findWays_144 hl (k := 5) rfl (by rw [ex37]; rfl) (by decide) rfl (fun ls hl => ?_)
                refine lv_goto (tgt := 96) hx hb dX8_findWays_147 (by decide) ?_
                exact ihrc35 _ hf _ _ _ hw (lv_sub hl [1, 2, 3, 4, 5, 0] rfl)
              · have hf := nc_ifn hf c36
                refine lv_aload_n hx hb dX8_findWays_102 rfl (lv_at hl 0 rfl) ?_
                refine gr_X8_25 cx hw (lModel_is h0) (lModel_way h0) ((lModel_way_L h0)).1 dX8_findWays_103 ?_
                refine lv_iload_n hx hb dX8_findWays_106 rfl (lv_at hl 2 rfl) ?_
                obtain ⟨j38, ej38, ij38, lj38, hf⟩ := nc_ix hf
                refine nc_ald cx hw (by decide) ((lModel_way_L h0)).1 ij38 ej38 (((lModel_way_L h0)).2 j38 lj38).1 (((lModel_way_L h0)).2 j38 lj38).2 dX8_findWays_107 ?_
                refine lv_iload hx hb dX8_findWays_108 (lv_at hl 5 rfl) ?_
                obtain ⟨j39, ej39, ij39, lj39, hf⟩ := nc_ix hf
                refine nc_ild cx hw (((lModel_way_L h0)).2 j38 lj38).2 ij39 ej39 dX8_findWays_110 ?_
                refine lv_if_eq (tgt := 144) hx hb dX8_findWays_111 (by decide) (fun c40 => ?_) (fun c40 => ?_)
                · have hf := nc_ifp hf c40
                  obtain ⟨x41, ex41⟩ : ∃ y : Int32, y = x34 + 1 := ⟨_, rfl⟩
                  have hf := nc_let_at hf ex41
                  refine lv_iinc (v := x41) (lv' := [(5, .int x41), (0, .ref o), (1, .int x2), (2, .int x18), (3, .int x8), (4, .int x19)]) hx hb dX8_findWays_144 hl (k := 5) rfl (by rw [ex41]; rfl) (by decide) rfl (fun ls hl => ?_)
                  refine lv_goto (tgt := 96) hx hb dX8_findWays_147 (by decide) ?_
                  exact ihrc35 _ hf _ _ _ hw (lv_sub hl [1, 2, 3, 4, 5, 0] rfl)
                · have hf := nc_ifn hf c40
                  refine lv_aload_n hx hb dX8_findWays_114 rfl (lv_at hl 0 rfl) ?_
                  refine gr_X8_25 cx hw (lModel_is h0) (lModel_way h0) ((lModel_way_L h0)).1 dX8_findWays_115 ?_
                  refine lv_iload_n hx hb dX8_findWays_118 rfl (lv_at hl 2 rfl) ?_
                  refine nc_ald cx hw (by decide) ((lModel_way_L h0)).1 ij38 ej38 (((lModel_way_L h0)).2 j38 lj38).1 (((lModel_way_L h0)).2 j38 lj38).2 dX8_findWays_119 ?_
                  refine lv_iload hx hb dX8_findWays_120 (lv_at hl 5 rfl) ?_
                  refine nc_ild cx hw (((lModel_way_L h0)).2 j38 lj38).2 ij39 ej39 dX8_findWays_122 ?_
                  refine lv_aload_n hx hb dX8_findWays_123 rfl (lv_at hl 0 rfl) ?_
                  refine gr_X8_37 cx hw (lModel_is h0) (lModel_far h0) ((lModel_far_L h0)).1 dX8_findWays_124 ?_
                  refine lv_iload hx hb dX8_findWays_127 (lv_at hl 5 rfl) ?_
                  refine nc_ald cx hw (by decide) ((lModel_far_L h0)).1 ij39 ej39 (((lModel_far_L h0)).2 j39 lj39).1 (((lModel_far_L h0)).2 j39 lj39).2 dX8_findWays_129 ?_
                  refine lv_iload_n hx hb dX8_findWays_130 rfl (lv_at hl 3 rfl) ?_
                  refine nc_ild cx hw (((lModel_far_L h0)).2 j39 lj39).2 ij12 ej12 dX8_findWays_131 ?_
                  refine lv_iadd hx hb dX8_findWays_132 ?_
                  refine lv_aload_n hx hb dX8_findWays_133 rfl (lv_at hl 0 rfl) ?_
                  refine gr_X8_37 cx hw (lModel_is h0) (lModel_far h0) ((lModel_far_L h0)).1 dX8_findWays_134 ?_
                  refine lv_iload_n hx hb dX8_findWays_137 rfl (lv_at hl 2 rfl) ?_
                  refine nc_ald cx hw (by decide) ((lModel_far_L h0)).1 ij38 ej38 (((lModel_far_L h0)).2 j38 lj38).1 (((lModel_far_L h0)).2 j38 lj38).2 dX8_findWays_138 ?_
                  refine lv_iload_n hx hb dX8_findWays_139 rfl (lv_at hl 3 rfl) ?_
                  refine nc_ild cx hw (((lModel_far_L h0)).2 j38 lj38).2 ij12 ej12 dX8_findWays_140 ?_
                  refine lv_icmp_eq (tgt := 150) hx hb dX8_findWays_141 (by decide) (fun c42 => ?_) (fun c42 => ?_)
                  · have hf := nc_ifp hf c42
                    exact hk24 _ hf _ _ _ hw (lv_sub hl [0, 1, 2, 3, 4, 5] rfl)
                  · have hf := nc_ifn hf c42
                    obtain ⟨x43, ex43⟩ : ∃ y : Int32, y = x34 + 1 := ⟨_, rfl⟩
                    have hf := nc_let_at hf ex43
                    refine lv_iinc (v := x43) (lv' := [(5, .int x43), (0, .ref o), (1, .int x2), (2, .int x18), (3, .int x8), (4, .int x19)]) hx hb dX8_findWays_144 hl (k := 5) rfl (by rw [ex43]; rfl) (by decide) rfl (fun ls hl => ?_)
                    refine lv_goto (tgt := 96) hx hb dX8_findWays_147 (by decide) ?_
                    exact ihrc35 _ hf _ _ _ hw (lv_sub hl [1, 2, 3, 4, 5, 0] rfl)
abbrev rm_X8_mayInMind : Room := { frames := 2, cells := 0, slots := 0, locals := 48 }
set_option maxRecDepth 100000 in
set_option maxHeartbeats 4000000 in
theorem c_X8_mayInMind (l : Launch) {G : nc_G} {K : nc_K} {o : Nat} (h0 : nc_LModel G K o) (mi : nc_Mem) (a1 a2 a3 a4 a5 : Int32) (res : Int32) (hf : f_X8_mayInMind mi o a1 a2 a3 a4 a5 = some res) : nc_M l yX8_mayInMind cX8_mayInMind 6 (some .boolean) rm_X8_mayInMind 0 0 G K K [.ref o, .int a1, .int a2, .int a3, .int a4, .int a5] mi mi (some (.int res)) := by
  refine nc_meet_i (by decide) (Nat.le_of_ble_eq_true rfl) ?_
  intro p e s m args below meth c Q H locs ls cx hret hw hl
  have cx : nc_C p s m args c cX8_mayInMind 6 RX8 G := cx
  have hl : lv_has ls 6 [(0, .ref o), (1, .int a1), (2, .int a2), (3, .int a3), (4, .int a4), (5, .int a5)] := hl
  have hx := cx.1
  have hb := cx.2.1
  unfold f_X8_mayInMind at hf
  refine lv_aload_n hx hb dX8_mayInMind_0 rfl (lv_at hl 0 rfl) ?_
  refine lv_iload_n hx hb dX8_mayInMind_1 rfl (lv_at hl 2 rfl) ?_
  refine lv_iload_n hx hb dX8_mayInMind_2 rfl (lv_at hl 3 rfl) ?_
  obtain ⟨q1, hq1, hf⟩ := nc_bi hf
  refine nc_callVi cx hw lk_X8_158 (c_X8_isFree l h0 mi a2 a3 q1 hq1) (ci := 8) rfl (lModel_is h0) rfl hl.1 rfl (Nat.le_of_ble_eq_true rfl) ⟨rfl, rfl, Nat.le_of_ble_eq_true rfl, Nat.le_of_ble_eq_true rfl⟩ dX8_mayInMind_3 (fun H locs hw => ?_)
  refine lv_if_eq (tgt := 33) hx hb dX8_mayInMind_6 (by decide) (fun c2 => ?_) (fun c2 => ?_)
  · have hf := nc_ifp hf c2
    refine lv_iconst (v := 0) hx hb dX8_mayInMind_33 (by decide) ?_
    exact nc_rpp hret hf rfl hw dX8_mayInMind_34
  · have hf := nc_ifn hf c2
    refine lv_iload_n hx hb dX8_mayInMind_9 rfl (lv_at hl 2 rfl) ?_
    refine lv_iload hx hb dX8_mayInMind_10 (lv_at hl 5 rfl) ?_
    refine lv_icmp_eq (tgt := 29) hx hb dX8_mayInMind_12 (by decide) (fun c3 => ?_) (fun c3 => ?_)
    · have hf := nc_ifp hf c3
      refine lv_iconst (v := 1) hx hb dX8_mayInMind_29 (by decide) ?_
      refine lv_goto (tgt := 34) hx hb dX8_mayInMind_30 (by decide) ?_
      exact nc_rpp hret hf rfl hw dX8_mayInMind_34
    · have hf := nc_ifn hf c3
      refine lv_aload_n hx hb dX8_mayInMind_15 rfl (lv_at hl 0 rfl) ?_
      refine lv_iload_n hx hb dX8_mayInMind_16 rfl (lv_at hl 1 rfl) ?_
      refine lv_iload_n hx hb dX8_mayInMind_17 rfl (lv_at hl 2 rfl) ?_
      refine lv_iload_n hx hb dX8_mayInMind_18 rfl (lv_at hl 3 rfl) ?_
      refine lv_iload hx hb dX8_mayInMind_19 (lv_at hl 4 rfl) ?_
      refine lv_bipush (v := (-9)) hx hb dX8_mayInMind_21 (by decide) ?_
      obtain ⟨q4, hq4, hf⟩ := nc_bi hf
      refine nc_callVi cx hw lk_X8_161 (c_X8_lets l h0 mi a1 a2 a3 a4 (-9) q4 hq4) (ci := 8) rfl (lModel_is h0) rfl hl.1 rfl (Nat.le_of_ble_eq_true rfl) ⟨rfl, rfl, Nat.le_of_ble_eq_true rfl, Nat.le_of_ble_eq_true rfl⟩ dX8_mayInMind_23 (fun H locs hw => ?_)
      refine lv_if_eq (tgt := 33) hx hb dX8_mayInMind_26 (by decide) (fun c5 => ?_) (fun c5 => ?_)
      · have hf := nc_ifp hf c5
        refine lv_iconst (v := 0) hx hb dX8_mayInMind_33 (by decide) ?_
        exact nc_rpp hret hf rfl hw dX8_mayInMind_34
      · have hf := nc_ifn hf c5
        refine lv_iconst (v := 1) hx hb dX8_mayInMind_29 (by decide) ?_
        refine lv_goto (tgt := 34) hx hb dX8_mayInMind_30 (by decide) ?_
        exact nc_rpp hret hf rfl hw dX8_mayInMind_34
abbrev rm_X8_findSoon : Room := { frames := 3, cells := 0, slots := 0, locals := 73 }
set_option maxRecDepth 100000 in
set_option maxHeartbeats 4000000 in
theorem c_X8_findSoon (l : Launch) {G : nc_G} {K : nc_K} {o : Nat} (h0 : nc_LModel G K o) (mi : nc_Mem) (a1 a2 a3 : Int32) (res : nc_Mem) (hf : f_X8_findSoon mi o a1 a2 a3 = some res) : nc_M l yX8_findSoon cX8_findSoon 10 none rm_X8_findSoon 0 0 G K K [.ref o, .int a1, .int a2, .int a3] mi res none := by
  refine nc_meet_v (by decide) (Nat.le_of_ble_eq_true rfl) ?_
  intro p e s m args below meth c Q H locs ls cx hret hw hl
  have cx : nc_C p s m args c cX8_findSoon 10 RX8 G := cx
  have hl : lv_has ls 10 [(0, .ref o), (1, .int a1), (2, .int a2), (3, .int a3)] := hl
  have hx := cx.1
  have hb := cx.2.1
  unfold f_X8_findSoon at hf
  refine lv_iconst (v := 0) hx hb dX8_findSoon_0 (by decide) ?_
  refine lv_istore (lv' := [(4, .int 0), (0, .ref o), (1, .int a1), (2, .int a2), (3, .int a3)]) hx hb dX8_findSoon_1 hl (by decide) rfl (fun ls hl => ?_)
  obtain ⟨k1, ek1, hf⟩ := nc_jn_of hf
  have hk1 : ∀ (mi2 : nc_Mem), k1 mi2 = some res → ∀ (H : Heap) (locs : List Loc) (ls : Array Slot), nc_W G K mi2 H locs → lv_has ls 10 [(0, .ref o), (1, .int a1), (2, .int a2), (3, .int a3)] → W p l e rm_X8_findSoon s m args below meth c H locs 0 0 Q (F0 m 25 ls []) := by
    intro mi2 hf H locs ls hw hl
    have hf := ((congrFun ek1 mi2)).symm.trans hf
    refine lv_aload_n hx hb dX8_findSoon_25 rfl (lv_at hl 0 rfl) ?_
    refine gr_X8_49 cx hw (lModel_is h0) (lModel_soon h0) (lModel_soon_L h0) dX8_findSoon_26 ?_
    refine lv_aload_n hx hb dX8_findSoon_29 rfl (lv_at hl 0 rfl) ?_
    refine gr_X8_31 cx hw (lModel_is h0) (lModel_thing h0) ((lModel_thing_L h0)).1 dX8_findSoon_30 ?_
    refine lv_iload_n hx hb dX8_findSoon_33 rfl (lv_at hl 2 rfl) ?_
    obtain ⟨j3, ej3, ij3, lj3, hf⟩ := nc_ix hf
    refine nc_ald cx hw (by decide) ((lModel_thing_L h0)).1 ij3 ej3 (((lModel_thing_L h0)).2 j3 lj3).1 (((lModel_thing_L h0)).2 j3 lj3).2 dX8_findSoon_34 ?_
    refine lv_iconst (v := 2) hx hb dX8_findSoon_35 (by decide) ?_
    refine nc_ild cx hw (((lModel_thing_L h0)).2 j3 lj3).2 (nc_lit (j := 2) rfl (by decide) (by decide)) rfl dX8_findSoon_36 ?_
    refine lv_iconst (v := 0) hx hb dX8_findSoon_37 (by decide) ?_
    obtain ⟨j4, ej4, ij4, lj4, hf⟩ := nc_ix hf
    refine nc_ist cx hw (lModel_soon_L h0) ij4 ej4 dX8_findSoon_38 (fun mi5 H locs emi5 hw => ?_)
    have hf := nc_let_at hf emi5
    refine lv_iconst (v := 1) hx hb dX8_findSoon_39 (by decide) ?_
    refine lv_istore (lv' := [(4, .int 1), (0, .ref o), (1, .int a1), (2, .int a2), (3, .int a3)]) hx hb dX8_findSoon_40 hl (by decide) rfl (fun ls hl => ?_)
    refine nc_loop_w (P := fun κ : Int32 → nc_Mem → Option (nc_Mem) => ∀ (x6 : Int32) (mi7 : nc_Mem), κ x6 mi7 = some res → ∀ (H : Heap) (locs : List Loc) (ls : Array Slot), nc_W G K mi7 H locs → lv_has ls 10 [(0, .ref o), (1, .int a1), (2, .int a2), (3, .int a3), (4, .int x6)] → W p l e rm_X8_findSoon s m args below meth c H locs 0 0 Q (F0 m 42 ls [])) ?_ ?_ 200 _ _ hf _ _ _ hw (lv_sub hl [1, 2, 3, 4, 0] rfl)
    · intro x6 mi7 hf; exact absurd hf (by intro q; cases q)
    · intro rc8 ihrc8 x6 mi7 hf H locs ls hw hl
      unfold B_X8_findSoon_42 at hf
      refine lv_iload hx hb dX8_findSoon_42 (lv_at hl 4 rfl) ?_
      refine lv_if_eq (tgt := 184) hx hb dX8_findSoon_44 (by decide) (fun c9 => ?_) (fun c9 => ?_)
      · have hf := nc_ifp hf c9
        exact nc_vpm hret hf hw dX8_findSoon_184
      · have hf := nc_ifn hf c9
        refine lv_iconst (v := 0) hx hb dX8_findSoon_47 (by decide) ?_
        refine lv_istore (lv' := [(4, .int 0), (0, .ref o), (1, .int a1), (2, .int a2), (3, .int a3)]) hx hb dX8_findSoon_48 hl (by decide) rfl (fun ls hl => ?_)
        refine lv_iconst (v := 0) hx hb dX8_findSoon_50 (by decide) ?_
        refine lv_istore (lv' := [(5, .int 0), (4, .int 0), (0, .ref o), (1, .int a1), (2, .int a2), (3, .int a3)]) hx hb dX8_findSoon_51 hl (by decide) rfl (fun ls hl => ?_)
        refine nc_loop_w (P := fun κ : Int32 → Int32 → nc_Mem → Option (nc_Mem) => ∀ (x10 : Int32) (x11 : Int32) (mi12 : nc_Mem), κ x10 x11 mi12 = some res → ∀ (H : Heap) (locs : List Loc) (ls : Array Slot), nc_W G K mi12 H locs → lv_has ls 10 [(0, .ref o), (1, .int a1), (2, .int a2), (3, .int a3), (4, .int x10), (5, .int x11)] → W p l e rm_X8_findSoon s m args below meth c H locs 0 0 Q (F0 m 53 ls [])) ?_ ?_ 200 _ _ _ hf _ _ _ hw (lv_sub hl [2, 3, 4, 5, 1, 0] rfl)
        · intro x10 x11 mi12 hf; exact absurd hf (by intro q; cases q)
        · intro rc13 ihrc13 x10 x11 mi12 hf H locs ls hw hl
          unfold B_X8_findSoon_53 at hf
          refine lv_iload hx hb dX8_findSoon_53 (lv_at hl 5 rfl) ?_
          refine lv_aload_n hx hb dX8_findSoon_55 rfl (lv_at hl 0 rfl) ?_
          refine gi_X8_65 cx hw (lModel_is h0) dX8_findSoon_56 ?_
          refine lv_icmp_ge (tgt := 181) hx hb dX8_findSoon_59 (by decide) (fun c14 => ?_) (fun c14 => ?_)
          · have hf := nc_ifp hf c14
            refine lv_goto (tgt := 42) hx hb dX8_findSoon_181 (by decide) ?_
            exact ihrc8 _ _ hf _ _ _ hw (lv_sub hl [0, 1, 2, 3, 4] rfl)
          · have hf := nc_ifn hf c14
            refine lv_iconst (v := 0) hx hb dX8_findSoon_62 (by decide) ?_
            refine lv_istore (lv' := [(6, .int 0), (0, .ref o), (1, .int a1), (2, .int a2), (3, .int a3), (4, .int x10), (5, .int x11)]) hx hb dX8_findSoon_63 hl (by decide) rfl (fun ls hl => ?_)
            refine lv_iconst (v := 0) hx hb dX8_findSoon_65 (by decide) ?_
            refine lv_istore (lv' := [(7, .int 0), (6, .int 0), (0, .ref o), (1, .int a1), (2, .int a2), (3, .int a3), (4, .int x10), (5, .int x11)]) hx hb dX8_findSoon_66 hl (by decide) rfl (fun ls hl => ?_)
            refine nc_loop_w (P := fun κ : Int32 → Int32 → Int32 → nc_Mem → Option (nc_Mem) => ∀ (x15 : Int32) (x16 : Int32) (x17 : Int32) (mi18 : nc_Mem), κ x15 x16 x17 mi18 = some res → ∀ (H : Heap) (locs : List Loc) (ls : Array Slot), nc_W G K mi18 H locs → lv_has ls 10 [(0, .ref o), (1, .int a1), (2, .int a2), (3, .int a3), (4, .int x15), (5, .int x11), (6, .int x16), (7, .int x17)] → W p l e rm_X8_findSoon s m args below meth c H locs 0 0 Q (F0 m 68 ls [])) ?_ ?_ 200 _ _ _ _ hf _ _ _ hw (lv_sub hl [2, 3, 4, 5, 6, 7, 1, 0] rfl)
            · intro x15 x16 x17 mi18 hf; exact absurd hf (by intro q; cases q)
            · intro rc19 ihrc19 x15 x16 x17 mi18 hf H locs ls hw hl
              unfold B_X8_findSoon_68 at hf
              refine lv_iload hx hb dX8_findSoon_68 (lv_at hl 7 rfl) ?_
              refine lv_aload_n hx hb dX8_findSoon_70 rfl (lv_at hl 0 rfl) ?_
              refine gr_X8_46 cx hw (lModel_is h0) (lModel_stops h0) (lModel_stops_L h0) dX8_findSoon_71 ?_
              refine lv_iload hx hb dX8_findSoon_74 (lv_at hl 5 rfl) ?_
              obtain ⟨j20, ej20, ij20, lj20, hf⟩ := nc_ix hf
              refine nc_ild cx hw (lModel_stops_L h0) ij20 ej20 dX8_findSoon_76 ?_
              refine lv_icmp_ge (tgt := 175) hx hb dX8_findSoon_77 (by decide) (fun c21 => ?_) (fun c21 => ?_)
              · have hf := nc_ifp hf c21
                obtain ⟨x22, ex22⟩ : ∃ y : Int32, y = x11 + 1 := ⟨_, rfl⟩
                have hf := nc_let_at hf ex22
                refine lv_iinc (v := x22) (lv' := [(5, .int x22), (0, .ref o), (1, .int a1), (2, .int a2), (3, .int a3), (4, .int x15), (6, .int x16), (7, .int x17)]) hx hb dX8_findSoon_175 hl (k := 5) rfl (by rw [ex22]; rfl) (by decide) rfl (fun ls hl => ?_)
                refine lv_goto (tgt := 53) hx hb dX8_findSoon_178 (by decide) ?_
                exact ihrc13 _ _ _ hf _ _ _ hw (lv_sub hl [1, 2, 3, 4, 5, 0] rfl)
              · have hf := nc_ifn hf c21
                refine lv_aload_n hx hb dX8_findSoon_80 rfl (lv_at hl 0 rfl) ?_
                refine gr_X8_40 cx hw (lModel_is h0) (lModel_stop h0) ((lModel_stop_L h0)).1 dX8_findSoon_81 ?_
                refine lv_iload hx hb dX8_findSoon_84 (lv_at hl 5 rfl) ?_
                refine nc_ald cx hw (by decide) ((lModel_stop_L h0)).1 ij20 ej20 (((lModel_stop_L h0)).2 j20 lj20).1 (((lModel_stop_L h0)).2 j20 lj20).2 dX8_findSoon_86 ?_
                refine lv_iload hx hb dX8_findSoon_87 (lv_at hl 7 rfl) ?_
                obtain ⟨j23, ej23, ij23, lj23, hf⟩ := nc_ix hf
                refine nc_ild cx hw (((lModel_stop_L h0)).2 j20 lj20).2 ij23 ej23 dX8_findSoon_89 ?_
                refine lv_topi (fun x24 ex24 => ?_)
                have hf := nc_let_at hf ex24
                refine lv_istore (lv' := [(8, .int x24), (0, .ref o), (1, .int a1), (2, .int a2), (3, .int a3), (4, .int x15), (5, .int x11), (6, .int x16), (7, .int x17)]) hx hb dX8_findSoon_90 hl (by decide) rfl (fun ls hl => ?_)
                refine lv_aload_n hx hb dX8_findSoon_92 rfl (lv_at hl 1 rfl) ?_
                refine gr_X8_43 cx hw (lModel_is h0) (lModel_when h0) ((lModel_when_L h0)).1 dX8_findSoon_93 ?_
                refine lv_iload hx hb dX8_findSoon_96 (lv_at hl 6 rfl) ?_
                refine nc_ald cx hw (by decide) ((lModel_when_L h0)).1 ij20 ej20 (((lModel_when_L h0)).2 j20 lj20).1 (((lModel_when_L h0)).2 j20 lj20).2 dX8_findSoon_98 ?_
                refine lv_iload hx hb dX8_findSoon_99 (lv_at hl 8 rfl) ?_
                refine nc_ild cx hw (((lModel_when_L h0)).2 j20 lj20).2 ij23 ej23 dX8_findSoon_101 ?_
                refine lv_topi (fun x25 ex25 => ?_)
                have hf := nc_let_at hf ex25
                refine lv_istore (lv' := [(9, .int x25), (8, .int x24), (0, .ref o), (1, .int a1), (2, .int a2), (3, .int a3), (4, .int x15), (5, .int x11), (6, .int x16), (7, .int x17)]) hx hb dX8_findSoon_102 hl (by decide) rfl (fun ls hl => ?_)
                refine lv_iload hx hb dX8_findSoon_104 (lv_at hl 8 rfl) ?_
                obtain ⟨k26, ek26, hf⟩ := nc_jn_of hf
                have hk26 : ∀ (x27 : Int32) (mi28 : nc_Mem), k26 x27 mi28 = some res → ∀ (H : Heap) (locs : List Loc) (ls : Array Slot), nc_W G K mi28 H locs → lv_has ls 10 [(0, .ref o), (1, .int a1), (2, .int a2), (3, .int a3), (4, .int x27), (5, .int x11), (6, .int x16), (7, .int x17), (8, .int x24), (9, .int x25)] → W p l e rm_X8_findSoon s m args below meth c H locs 0 0 Q (F0 m 133 ls []) := by
                  intro x27 mi28 hf H locs ls hw hl
                  have hf := ((congrFun (congrFun ek26 x27) mi28)).symm.trans hf
                  refine lv_iload hx hb dX8_findSoon_133 (lv_at hl 6 rfl) ?_
                  refine lv_aload_n hx hb dX8_findSoon_135 rfl (lv_at hl 0 rfl) ?_
                  refine gr_X8_49 cx hw (lModel_is h0) (lModel_soon h0) (lModel_soon_L h0) dX8_findSoon_136 ?_
                  refine lv_iload hx hb dX8_findSoon_139 (lv_at hl 8 rfl) ?_
                  obtain ⟨j29, ej29, ij29, lj29, hf⟩ := nc_ix hf
                  refine nc_ild cx hw (lModel_soon_L h0) ij29 ej29 dX8_findSoon_141 ?_
                  refine lv_iload hx hb dX8_findSoon_142 (lv_at hl 9 rfl) ?_
                  refine lv_icmp_gt (tgt := 165) hx hb dX8_findSoon_144 (by decide) (fun c30 => ?_) (fun c30 => ?_)
                  · have hf := nc_ifp hf c30
                    refine lv_iconst (v := 0) hx hb dX8_findSoon_165 (by decide) ?_
                    refine lv_ior hx hb dX8_findSoon_166 ?_
                    refine lv_topi (fun x31 ex31 => ?_)
                    have hf := nc_let_at hf ex31
                    refine lv_istore (lv' := [(6, .int x31), (0, .ref o), (1, .int a1), (2, .int a2), (3, .int a3), (4, .int x27), (5, .int x11), (7, .int x17), (8, .int x24), (9, .int x25)]) hx hb dX8_findSoon_167 hl (by decide) rfl (fun ls hl => ?_)
                    obtain ⟨x32, ex32⟩ : ∃ y : Int32, y = x17 + 1 := ⟨_, rfl⟩
                    have hf := nc_let_at hf ex32
                    refine lv_iinc (v := x32) (lv' := [(7, .int x32), (6, .int x31), (0, .ref o), (1, .int a1), (2, .int a2), (3, .int a3), (4, .int x27), (5, .int x11), (8, .int x24), (9, .int x25)]) hx hb dX8_findSoon_169 hl (k := 7) rfl (by rw [ex32]; rfl) (by decide) rfl (fun ls hl => ?_)
                    refine lv_goto (tgt := 68) hx hb dX8_findSoon_172 (by decide) ?_
                    exact ihrc19 _ _ _ _ hf _ _ _ hw (lv_sub hl [2, 3, 4, 5, 6, 7, 1, 0] rfl)
                  · have hf := nc_ifn hf c30
                    refine lv_aload_n hx hb dX8_findSoon_147 rfl (lv_at hl 0 rfl) ?_
                    refine lv_iload_n hx hb dX8_findSoon_148 rfl (lv_at hl 1 rfl) ?_
                    refine lv_iload hx hb dX8_findSoon_149 (lv_at hl 5 rfl) ?_
                    refine lv_iload_n hx hb dX8_findSoon_151 rfl (lv_at hl 2 rfl) ?_
                    refine lv_iload hx hb dX8_findSoon_152 (lv_at hl 9 rfl) ?_
                    refine lv_iload_n hx hb dX8_findSoon_154 rfl (lv_at hl 3 rfl) ?_
                    obtain ⟨q33, hq33, hf⟩ := nc_bi hf
                    refine nc_callVi cx hw lk_X8_178 (c_X8_mayInMind l h0 mi28 a1 x11 a2 x25 a3 q33 hq33) (ci := 8) rfl (lModel_is h0) rfl hl.1 rfl (Nat.le_of_ble_eq_true rfl) ⟨rfl, rfl, Nat.le_of_ble_eq_true rfl, Nat.le_of_ble_eq_true rfl⟩ dX8_findSoon_155 (fun H locs hw => ?_)
                    refine lv_if_eq (tgt := 165) hx hb dX8_findSoon_158 (by decide) (fun c34 => ?_) (fun c34 => ?_)
                    · have hf := nc_ifp hf c34
                      refine lv_iconst (v := 0) hx hb dX8_findSoon_165 (by decide) ?_
                      refine lv_ior hx hb dX8_findSoon_166 ?_
                      refine lv_topi (fun x35 ex35 => ?_)
                      have hf := nc_let_at hf ex35
                      refine lv_istore (lv' := [(6, .int x35), (0, .ref o), (1, .int a1), (2, .int a2), (3, .int a3), (4, .int x27), (5, .int x11), (7, .int x17), (8, .int x24), (9, .int x25)]) hx hb dX8_findSoon_167 hl (by decide) rfl (fun ls hl => ?_)
                      obtain ⟨x36, ex36⟩ : ∃ y : Int32, y = x17 + 1 := ⟨_, rfl⟩
                      have hf := nc_let_at hf ex36
                      refine lv_iinc (v := x36) (lv' := [(7, .int x36), (6, .int x35), (0, .ref o), (1, .int a1), (2, .int a2), (3, .int a3), (4, .int x27), (5, .int x11), (8, .int x24), (9, .int x25)]) hx hb dX8_findSoon_169 hl (k := 7) rfl (by rw [ex36]; rfl) (by decide) rfl (fun ls hl => ?_)
                      refine lv_goto (tgt := 68) hx hb dX8_findSoon_172 (by decide) ?_
                      exact ihrc19 _ _ _ _ hf _ _ _ hw (lv_sub hl [2, 3, 4, 5, 6, 7, 1, 0] rfl)
                    · have hf := nc_ifn hf c34
                      refine lv_iconst (v := 1) hx hb dX8_findSoon_161 (by decide) ?_
                      refine lv_goto (tgt := 166) hx hb dX8_findSoon_162 (by decide) ?_
                      refine lv_ior hx hb dX8_findSoon_166 ?_
                      refine lv_topi (fun x37 ex37 => ?_)
                      have hf := nc_let_at hf ex37
                      refine lv_istore (lv' := [(6, .int x37), (0, .ref o), (1, .int a1), (2, .int a2), (3, .int a3), (4, .int x27), (5, .int x11), (7, .int x17), (8, .int x24), (9, .int x25)]) hx hb dX8_findSoon_167 hl (by decide) rfl (fun ls hl => ?_)
                      obtain ⟨x38, ex38⟩ : ∃ y : Int32, y = x17 + 1 := ⟨_, rfl⟩
                      have hf := nc_let_at hf ex38
                      refine lv_iinc (v := x38) (lv' := [(7, .int x38), (6, .int x37), (0, .ref o), (1, .int a1), (2, .int a2), (3, .int a3), (4, .int x27), (5, .int x11), (8, .int x24), (9, .int x25)]) hx hb dX8_findSoon_169 hl (k := 7) rfl (by rw [ex38]; rfl) (by decide) rfl (fun ls hl => ?_)
                      refine lv_goto (tgt := 68) hx hb dX8_findSoon_172 (by decide) ?_
                      exact ihrc19 _ _ _ _ hf _ _ _ hw (lv_sub hl [2, 3, 4, 5, 6, 7, 1, 0] rfl)
                refine lv_if_eq (tgt := 133) hx hb dX8_findSoon_106 (by decide) (fun c39 => ?_) (fun c39 => ?_)
                · have hf := nc_ifp hf c39
                  exact hk26 _ _ hf _ _ _ hw (lv_sub hl [2, 3, 4, 5, 6, 7, 8, 9, 1, 0] rfl)
                · have hf := nc_ifn hf c39
                  refine lv_iload hx hb dX8_findSoon_109 (lv_at hl 0 rfl) ?_
                  refine lv_aload_n hx hb dX8_findSoon_111 rfl (lv_at hl 2 rfl) ?_
                  refine gr_X8_49 cx hw (lModel_is h0) (lModel_soon h0) (lModel_soon_L h0) dX8_findSoon_112 ?_
                  refine lv_iload hx hb dX8_findSoon_115 (lv_at hl 1 rfl) ?_
                  obtain ⟨j40, ej40, ij40, lj40, hf⟩ := nc_ix hf
                  refine nc_ild cx hw (lModel_soon_L h0) ij40 ej40 dX8_findSoon_117 ?_
                  refine lv_icmp_ge (tgt := 133) hx hb dX8_findSoon_118 (by decide) (fun c41 => ?_) (fun c41 => ?_)
                  · have hf := nc_ifp hf c41
                    exact hk26 _ _ hf _ _ _ hw (lv_sub hl [2, 3, 4, 5, 6, 7, 8, 9, 1, 0] rfl)
                  · have hf := nc_ifn hf c41
                    refine lv_aload_n hx hb dX8_findSoon_121 rfl (lv_at hl 2 rfl) ?_
                    refine gr_X8_49 cx hw (lModel_is h0) (lModel_soon h0) (lModel_soon_L h0) dX8_findSoon_122 ?_
                    refine lv_iload hx hb dX8_findSoon_125 (lv_at hl 1 rfl) ?_
                    refine lv_iload hx hb dX8_findSoon_127 (lv_at hl 0 rfl) ?_
                    refine nc_ist cx hw (lModel_soon_L h0) ij40 ej40 dX8_findSoon_129 (fun mi42 H locs emi42 hw => ?_)
                    have hf := nc_let_at hf emi42
                    refine lv_iconst (v := 1) hx hb dX8_findSoon_130 (by decide) ?_
                    refine lv_istore (lv' := [(4, .int 1), (9, .int x25), (8, .int x24), (0, .ref o), (1, .int a1), (2, .int a2), (3, .int a3), (5, .int x11), (6, .int x16), (7, .int x17)]) hx hb dX8_findSoon_131 hl (by decide) rfl (fun ls hl => ?_)
                    exact hk26 _ _ hf _ _ _ hw (lv_sub hl [3, 4, 5, 6, 0, 7, 8, 9, 2, 1] rfl)
  refine nc_loop_w (P := fun κ : Int32 → nc_Mem → Option (nc_Mem) => ∀ (x43 : Int32) (mi44 : nc_Mem), κ x43 mi44 = some res → ∀ (H : Heap) (locs : List Loc) (ls : Array Slot), nc_W G K mi44 H locs → lv_has ls 10 [(0, .ref o), (1, .int a1), (2, .int a2), (3, .int a3), (4, .int x43)] → W p l e rm_X8_findSoon s m args below meth c H locs 0 0 Q (F0 m 3 ls [])) ?_ ?_ 200 _ _ hf _ _ _ hw (lv_sub hl [1, 2, 3, 4, 0] rfl)
  · intro x43 mi44 hf; exact absurd hf (by intro q; cases q)
  · intro rc45 ihrc45 x43 mi44 hf H locs ls hw hl
    unfold B_X8_findSoon_3 at hf
    refine lv_iload hx hb dX8_findSoon_3 (lv_at hl 4 rfl) ?_
    refine lv_bipush (v := 7) hx hb dX8_findSoon_5 (by decide) ?_
    refine lv_icmp_ge (tgt := 25) hx hb dX8_findSoon_7 (by decide) (fun c46 => ?_) (fun c46 => ?_)
    · have hf := nc_ifp hf c46
      exact hk1 _ hf _ _ _ hw (lv_sub hl [0, 1, 2, 3] rfl)
    · have hf := nc_ifn hf c46
      refine lv_aload_n hx hb dX8_findSoon_10 rfl (lv_at hl 0 rfl) ?_
      refine gr_X8_49 cx hw (lModel_is h0) (lModel_soon h0) (lModel_soon_L h0) dX8_findSoon_11 ?_
      refine lv_iload hx hb dX8_findSoon_14 (lv_at hl 4 rfl) ?_
      refine nc_ldc (v := 100000) cx kc_X8_138 dX8_findSoon_16 ?_
      obtain ⟨j47, ej47, ij47, lj47, hf⟩ := nc_ix hf
      refine nc_ist cx hw (lModel_soon_L h0) ij47 ej47 dX8_findSoon_18 (fun mi48 H locs emi48 hw => ?_)
      have hf := nc_let_at hf emi48
      obtain ⟨x49, ex49⟩ : ∃ y : Int32, y = x43 + 1 := ⟨_, rfl⟩
      have hf := nc_let_at hf ex49
      refine lv_iinc (v := x49) (lv' := [(4, .int x49), (0, .ref o), (1, .int a1), (2, .int a2), (3, .int a3)]) hx hb dX8_findSoon_19 hl (k := 4) rfl (by rw [ex49]; rfl) (by decide) rfl (fun ls hl => ?_)
      refine lv_goto (tgt := 3) hx hb dX8_findSoon_22 (by decide) ?_
      exact ihrc45 _ _ hf _ _ _ hw (lv_sub hl [1, 2, 3, 4, 0] rfl)
abbrev rm_X8_soonestBy : Room := { frames := 4, cells := 0, slots := 0, locals := 102 }
set_option maxRecDepth 100000 in
set_option maxHeartbeats 4000000 in
theorem c_X8_soonestBy (l : Launch) {G : nc_G} {K : nc_K} {o : Nat} (h0 : nc_LModel G K o) (mi : nc_Mem) (a1 a2 a3 : Int32) (res : nc_Mem × Int32) (hf : f_X8_soonestBy mi o a1 a2 a3 = some res) : nc_M l yX8_soonestBy cX8_soonestBy 5 (some .int) rm_X8_soonestBy 0 0 G K K [.ref o, .int a1, .int a2, .int a3] mi res.1 (some (.int res.2)) := by
  refine nc_meet_i (by decide) (Nat.le_of_ble_eq_true rfl) ?_
  intro p e s m args below meth c Q H locs ls cx hret hw hl
  have cx : nc_C p s m args c cX8_soonestBy 5 RX8 G := cx
  have hl : lv_has ls 5 [(0, .ref o), (1, .int a1), (2, .int a2), (3, .int a3)] := hl
  have hx := cx.1
  have hb := cx.2.1
  unfold f_X8_soonestBy at hf
  refine lv_aload_n hx hb dX8_soonestBy_0 rfl (lv_at hl 0 rfl) ?_
  refine lv_iload_n hx hb dX8_soonestBy_1 rfl (lv_at hl 1 rfl) ?_
  refine lv_iload_n hx hb dX8_soonestBy_2 rfl (lv_at hl 2 rfl) ?_
  refine lv_iload_n hx hb dX8_soonestBy_3 rfl (lv_at hl 3 rfl) ?_
  obtain ⟨q1, hq1, hf⟩ := nc_bi hf
  refine nc_callVv cx hw lk_X8_181 (c_X8_findSoon l h0 mi a1 a2 a3 q1 hq1) (ci := 8) rfl (lModel_is h0) rfl hl.1 rfl (Nat.le_of_ble_eq_true rfl) ⟨rfl, rfl, Nat.le_of_ble_eq_true rfl, Nat.le_of_ble_eq_true rfl⟩ dX8_soonestBy_4 (fun H locs hw => ?_)
  refine lv_aload_n hx hb dX8_soonestBy_7 rfl (lv_at hl 0 rfl) ?_
  refine gr_X8_49 cx hw (lModel_is h0) (lModel_soon h0) (lModel_soon_L h0) dX8_soonestBy_8 ?_
  refine lv_aload_n hx hb dX8_soonestBy_11 rfl (lv_at hl 0 rfl) ?_
  refine gr_X8_31 cx hw (lModel_is h0) (lModel_thing h0) ((lModel_thing_L h0)).1 dX8_soonestBy_12 ?_
  refine lv_iload_n hx hb dX8_soonestBy_15 rfl (lv_at hl 2 rfl) ?_
  obtain ⟨j2, ej2, ij2, lj2, hf⟩ := nc_ix hf
  refine nc_ald cx hw (by decide) ((lModel_thing_L h0)).1 ij2 ej2 (((lModel_thing_L h0)).2 j2 lj2).1 (((lModel_thing_L h0)).2 j2 lj2).2 dX8_soonestBy_16 ?_
  refine lv_iconst (v := 3) hx hb dX8_soonestBy_17 (by decide) ?_
  refine nc_ild cx hw (((lModel_thing_L h0)).2 j2 lj2).2 (nc_lit (j := 3) rfl (by decide) (by decide)) rfl dX8_soonestBy_18 ?_
  obtain ⟨j3, ej3, ij3, lj3, hf⟩ := nc_ix hf
  refine nc_ild cx hw (lModel_soon_L h0) ij3 ej3 dX8_soonestBy_19 ?_
  refine lv_topi (fun x4 ex4 => ?_)
  have hf := nc_let_at hf ex4
  refine lv_istore (lv' := [(4, .int x4), (0, .ref o), (1, .int a1), (2, .int a2), (3, .int a3)]) hx hb dX8_soonestBy_20 hl (by decide) rfl (fun ls hl => ?_)
  refine lv_iload hx hb dX8_soonestBy_22 (lv_at hl 0 rfl) ?_
  refine nc_ldc (v := 100000) cx kc_X8_138 dX8_soonestBy_24 ?_
  refine lv_icmp_ge (tgt := 34) hx hb dX8_soonestBy_26 (by decide) (fun c5 => ?_) (fun c5 => ?_)
  · have hf := nc_ifp hf c5
    refine lv_bipush (v := (-9)) hx hb dX8_soonestBy_34 (by decide) ?_
    exact nc_rpm hret hf rfl hw dX8_soonestBy_36
  · have hf := nc_ifn hf c5
    refine lv_iload hx hb dX8_soonestBy_29 (lv_at hl 0 rfl) ?_
    refine lv_goto (tgt := 36) hx hb dX8_soonestBy_31 (by decide) ?_
    exact nc_rpm hret hf rfl hw dX8_soonestBy_36
abbrev rm_X8_soonest : Room := { frames := 5, cells := 0, slots := 0, locals := 126 }
set_option maxRecDepth 100000 in
set_option maxHeartbeats 4000000 in
theorem c_X8_soonest (l : Launch) {G : nc_G} {K : nc_K} {o : Nat} (h0 : nc_LModel G K o) (mi : nc_Mem) (a1 : Int32) (res : nc_Mem × Int32) (hf : f_X8_soonest mi o a1 = some res) : nc_M l yX8_soonest cX8_soonest 2 (some .int) rm_X8_soonest 0 0 G K K [.ref o, .int a1] mi res.1 (some (.int res.2)) := by
  refine nc_meet_i (by decide) (Nat.le_of_ble_eq_true rfl) ?_
  intro p e s m args below meth c Q H locs ls cx hret hw hl
  have cx : nc_C p s m args c cX8_soonest 2 RX8 G := cx
  have hl : lv_has ls 2 [(0, .ref o), (1, .int a1)] := hl
  have hx := cx.1
  have hb := cx.2.1
  unfold f_X8_soonest at hf
  refine lv_aload_n hx hb dX8_soonest_0 rfl (lv_at hl 0 rfl) ?_
  refine lv_iload_n hx hb dX8_soonest_1 rfl (lv_at hl 1 rfl) ?_
  obtain ⟨q1, hq1, hf⟩ := nc_bi hf
  refine nc_callVi cx hw lk_X8_145 (c_X8_isThing l h0 mi a1 q1 hq1) (ci := 8) rfl (lModel_is h0) rfl hl.1 rfl (Nat.le_of_ble_eq_true rfl) ⟨rfl, rfl, Nat.le_of_ble_eq_true rfl, Nat.le_of_ble_eq_true rfl⟩ dX8_soonest_2 (fun H locs hw => ?_)
  refine lv_if_ne (tgt := 14) hx hb dX8_soonest_5 (by decide) (fun c2 => ?_) (fun c2 => ?_)
  · have hf := nc_ifn hf c2
    refine lv_aload_n hx hb dX8_soonest_14 rfl (lv_at hl 0 rfl) ?_
    obtain ⟨q3, hq3, hf⟩ := nc_bi hf
    refine nc_callVv cx hw lk_X8_185 (c_X8_findWays l h0 mi  q3 hq3) (ci := 8) rfl (lModel_is h0) rfl hl.1 rfl (Nat.le_of_ble_eq_true rfl) ⟨rfl, rfl, Nat.le_of_ble_eq_true rfl, Nat.le_of_ble_eq_true rfl⟩ dX8_soonest_15 (fun H locs hw => ?_)
    refine lv_aload_n hx hb dX8_soonest_18 rfl (lv_at hl 0 rfl) ?_
    refine lv_aload_n hx hb dX8_soonest_19 rfl (lv_at hl 0 rfl) ?_
    refine gi_X8_148 cx hw (lModel_is h0) dX8_soonest_20 ?_
    refine lv_iload_n hx hb dX8_soonest_23 rfl (lv_at hl 1 rfl) ?_
    refine lv_bipush (v := (-9)) hx hb dX8_soonest_24 (by decide) ?_
    obtain ⟨q4, hq4, hf⟩ := nc_bi hf
    refine nc_callVi cx hw lk_X8_188 (c_X8_soonestBy l h0 q3 (q3 o 11) a1 (-9) q4 hq4) (ci := 8) rfl (lModel_is h0) rfl hl.1 rfl (Nat.le_of_ble_eq_true rfl) ⟨rfl, rfl, Nat.le_of_ble_eq_true rfl, Nat.le_of_ble_eq_true rfl⟩ dX8_soonest_26 (fun H locs hw => ?_)
    exact nc_rpm hret hf rfl hw dX8_soonest_29
  · have hf := nc_ifp hf c2
    refine lv_aload_n hx hb dX8_soonest_8 rfl (lv_at hl 0 rfl) ?_
    refine lv_iconst (v := (-1)) hx hb dX8_soonest_9 (by decide) ?_
    obtain ⟨q5, hq5, hf⟩ := nc_bi hf
    refine nc_callVi cx hw lk_X8_71 (c_X8_refuse l h0 mi (-1) q5 hq5) (ci := 8) rfl (lModel_is h0) rfl hl.1 rfl (Nat.le_of_ble_eq_true rfl) ⟨rfl, rfl, Nat.le_of_ble_eq_true rfl, Nat.le_of_ble_eq_true rfl⟩ dX8_soonest_10 (fun H locs hw => ?_)
    exact nc_rpm hret hf rfl hw dX8_soonest_13
abbrev rm_X8_bringsFrom : Room := { frames := 3, cells := 0, slots := 0, locals := 73 }
set_option maxRecDepth 100000 in
set_option maxHeartbeats 4000000 in
theorem c_X8_bringsFrom (l : Launch) {G : nc_G} {K : nc_K} {o : Nat} (h0 : nc_LModel G K o) (mi : nc_Mem) (a1 a2 a3 a4 : Int32) (res : Int32) (hf : f_X8_bringsFrom mi o a1 a2 a3 a4 = some res) : nc_M l yX8_bringsFrom cX8_bringsFrom 8 (some .int) rm_X8_bringsFrom 0 0 G K K [.ref o, .int a1, .int a2, .int a3, .int a4] mi mi (some (.int res)) := by
  refine nc_meet_i (by decide) (Nat.le_of_ble_eq_true rfl) ?_
  intro p e s m args below meth c Q H locs ls cx hret hw hl
  have cx : nc_C p s m args c cX8_bringsFrom 8 RX8 G := cx
  have hl : lv_has ls 8 [(0, .ref o), (1, .int a1), (2, .int a2), (3, .int a3), (4, .int a4)] := hl
  have hx := cx.1
  have hb := cx.2.1
  unfold f_X8_bringsFrom at hf
  refine lv_bipush (v := (-9)) hx hb dX8_bringsFrom_0 (by decide) ?_
  refine lv_istore (lv' := [(5, .int (-9)), (0, .ref o), (1, .int a1), (2, .int a2), (3, .int a3), (4, .int a4)]) hx hb dX8_bringsFrom_2 hl (by decide) rfl (fun ls hl => ?_)
  refine lv_iconst (v := 0) hx hb dX8_bringsFrom_4 (by decide) ?_
  refine lv_istore (lv' := [(6, .int 0), (5, .int (-9)), (0, .ref o), (1, .int a1), (2, .int a2), (3, .int a3), (4, .int a4)]) hx hb dX8_bringsFrom_5 hl (by decide) rfl (fun ls hl => ?_)
  refine nc_loop_w (P := fun κ : Int32 → Int32 → Option (Int32) => ∀ (x1 : Int32) (x2 : Int32), κ x1 x2 = some res → ∀ (H : Heap) (locs : List Loc) (ls : Array Slot), nc_W G K mi H locs → lv_has ls 8 [(0, .ref o), (1, .int a1), (2, .int a2), (3, .int a3), (4, .int a4), (5, .int x1), (6, .int x2)] → W p l e rm_X8_bringsFrom s m args below meth c H locs 0 0 Q (F0 m 7 ls [])) ?_ ?_ 200 _ _ hf _ _ _ hw (lv_sub hl [2, 3, 4, 5, 6, 1, 0] rfl)
  · intro x1 x2 hf; exact absurd hf (by intro q; cases q)
  · intro rc3 ihrc3 x1 x2 hf H locs ls hw hl
    unfold B_X8_bringsFrom_7 at hf
    refine lv_iload hx hb dX8_bringsFrom_7 (lv_at hl 6 rfl) ?_
    refine lv_aload_n hx hb dX8_bringsFrom_9 rfl (lv_at hl 0 rfl) ?_
    refine gr_X8_46 cx hw (lModel_is h0) (lModel_stops h0) (lModel_stops_L h0) dX8_bringsFrom_10 ?_
    refine lv_iload_n hx hb dX8_bringsFrom_13 rfl (lv_at hl 1 rfl) ?_
    obtain ⟨j4, ej4, ij4, lj4, hf⟩ := nc_ix hf
    refine nc_ild cx hw (lModel_stops_L h0) ij4 ej4 dX8_bringsFrom_14 ?_
    refine lv_icmp_ge (tgt := 115) hx hb dX8_bringsFrom_15 (by decide) (fun c5 => ?_) (fun c5 => ?_)
    · have hf := nc_ifp hf c5
      refine lv_bipush (v := (-9)) hx hb dX8_bringsFrom_115 (by decide) ?_
      exact nc_rpp hret hf rfl hw dX8_bringsFrom_117
    · have hf := nc_ifn hf c5
      refine lv_aload_n hx hb dX8_bringsFrom_18 rfl (lv_at hl 0 rfl) ?_
      refine gr_X8_40 cx hw (lModel_is h0) (lModel_stop h0) ((lModel_stop_L h0)).1 dX8_bringsFrom_19 ?_
      refine lv_iload_n hx hb dX8_bringsFrom_22 rfl (lv_at hl 1 rfl) ?_
      refine nc_ald cx hw (by decide) ((lModel_stop_L h0)).1 ij4 ej4 (((lModel_stop_L h0)).2 j4 lj4).1 (((lModel_stop_L h0)).2 j4 lj4).2 dX8_bringsFrom_23 ?_
      refine lv_iload hx hb dX8_bringsFrom_24 (lv_at hl 6 rfl) ?_
      obtain ⟨j6, ej6, ij6, lj6, hf⟩ := nc_ix hf
      refine nc_ild cx hw (((lModel_stop_L h0)).2 j4 lj4).2 ij6 ej6 dX8_bringsFrom_26 ?_
      refine lv_topi (fun x7 ex7 => ?_)
      have hf := nc_let_at hf ex7
      refine lv_istore (lv' := [(7, .int x7), (0, .ref o), (1, .int a1), (2, .int a2), (3, .int a3), (4, .int a4), (5, .int x1), (6, .int x2)]) hx hb dX8_bringsFrom_27 hl (by decide) rfl (fun ls hl => ?_)
      refine lv_iload hx hb dX8_bringsFrom_29 (lv_at hl 0 rfl) ?_
      refine lv_iload_n hx hb dX8_bringsFrom_31 rfl (lv_at hl 4 rfl) ?_
      refine lv_icmp_ne (tgt := 57) hx hb dX8_bringsFrom_32 (by decide) (fun c8 => ?_) (fun c8 => ?_)
      · have hf := nc_ifn hf c8
        refine lv_aload_n hx hb dX8_bringsFrom_57 rfl (lv_at hl 1 rfl) ?_
        refine gr_X8_49 cx hw (lModel_is h0) (lModel_soon h0) (lModel_soon_L h0) dX8_bringsFrom_58 ?_
        refine lv_iload hx hb dX8_bringsFrom_61 (lv_at hl 0 rfl) ?_
        obtain ⟨j9, ej9, ij9, lj9, hf⟩ := nc_ix hf
        refine nc_ild cx hw (lModel_soon_L h0) ij9 ej9 dX8_bringsFrom_63 ?_
        refine lv_aload_n hx hb dX8_bringsFrom_64 rfl (lv_at hl 1 rfl) ?_
        refine gr_X8_43 cx hw (lModel_is h0) (lModel_when h0) ((lModel_when_L h0)).1 dX8_bringsFrom_65 ?_
        refine lv_iload_n hx hb dX8_bringsFrom_68 rfl (lv_at hl 2 rfl) ?_
        refine nc_ald cx hw (by decide) ((lModel_when_L h0)).1 ij4 ej4 (((lModel_when_L h0)).2 j4 lj4).1 (((lModel_when_L h0)).2 j4 lj4).2 dX8_bringsFrom_69 ?_
        refine lv_iload hx hb dX8_bringsFrom_70 (lv_at hl 7 rfl) ?_
        refine nc_ild cx hw (((lModel_when_L h0)).2 j4 lj4).2 ij6 ej6 dX8_bringsFrom_72 ?_
        refine lv_icmp_gt (tgt := 105) hx hb dX8_bringsFrom_73 (by decide) (fun c10 => ?_) (fun c10 => ?_)
        · have hf := nc_ifp hf c10
          refine lv_iload hx hb dX8_bringsFrom_105 (lv_at hl 6 rfl) ?_
          refine lv_istore (lv' := [(5, .int x1), (7, .int x7), (0, .ref o), (1, .int a1), (2, .int a2), (3, .int a3), (4, .int a4), (6, .int x2)]) hx hb dX8_bringsFrom_107 hl (by decide) rfl (fun ls hl => ?_)
          obtain ⟨x11, ex11⟩ : ∃ y : Int32, y = x2 + 1 := ⟨_, rfl⟩
          have hf := nc_let_at hf ex11
          refine lv_iinc (v := x11) (lv' := [(6, .int x11), (5, .int x1), (7, .int x7), (0, .ref o), (1, .int a1), (2, .int a2), (3, .int a3), (4, .int a4)]) hx hb dX8_bringsFrom_109 hl (k := 7) rfl (by rw [ex11]; rfl) (by decide) rfl (fun ls hl => ?_)
          refine lv_goto (tgt := 7) hx hb dX8_bringsFrom_112 (by decide) ?_
          exact ihrc3 _ _ hf _ _ _ hw (lv_sub hl [3, 4, 5, 6, 7, 1, 0] rfl)
        · have hf := nc_ifn hf c10
          refine lv_aload_n hx hb dX8_bringsFrom_76 rfl (lv_at hl 1 rfl) ?_
          refine lv_aload_n hx hb dX8_bringsFrom_77 rfl (lv_at hl 1 rfl) ?_
          refine gi_X8_148 cx hw (lModel_is h0) dX8_bringsFrom_78 ?_
          refine lv_iload_n hx hb dX8_bringsFrom_81 rfl (lv_at hl 2 rfl) ?_
          refine lv_iload_n hx hb dX8_bringsFrom_82 rfl (lv_at hl 3 rfl) ?_
          refine lv_aload_n hx hb dX8_bringsFrom_83 rfl (lv_at hl 1 rfl) ?_
          refine gr_X8_43 cx hw (lModel_is h0) (lModel_when h0) ((lModel_when_L h0)).1 dX8_bringsFrom_84 ?_
          refine lv_iload_n hx hb dX8_bringsFrom_87 rfl (lv_at hl 2 rfl) ?_
          refine nc_ald cx hw (by decide) ((lModel_when_L h0)).1 ij4 ej4 (((lModel_when_L h0)).2 j4 lj4).1 (((lModel_when_L h0)).2 j4 lj4).2 dX8_bringsFrom_88 ?_
          refine lv_iload hx hb dX8_bringsFrom_89 (lv_at hl 7 rfl) ?_
          refine nc_ild cx hw (((lModel_when_L h0)).2 j4 lj4).2 ij6 ej6 dX8_bringsFrom_91 ?_
          refine lv_bipush (v := (-9)) hx hb dX8_bringsFrom_92 (by decide) ?_
          obtain ⟨q12, hq12, hf⟩ := nc_bi hf
          refine nc_callVi cx hw lk_X8_178 (c_X8_mayInMind l h0 mi (mi o 11) a1 a2 (mi (o + 42 + 1 + j4) j6) (-9) q12 hq12) (ci := 8) rfl (lModel_is h0) rfl hl.1 rfl (Nat.le_of_ble_eq_true rfl) ⟨rfl, rfl, Nat.le_of_ble_eq_true rfl, Nat.le_of_ble_eq_true rfl⟩ dX8_bringsFrom_94 (fun H locs hw => ?_)
          refine lv_if_eq (tgt := 105) hx hb dX8_bringsFrom_97 (by decide) (fun c13 => ?_) (fun c13 => ?_)
          · have hf := nc_ifp hf c13
            refine lv_iload hx hb dX8_bringsFrom_105 (lv_at hl 6 rfl) ?_
            refine lv_istore (lv' := [(5, .int x1), (7, .int x7), (0, .ref o), (1, .int a1), (2, .int a2), (3, .int a3), (4, .int a4), (6, .int x2)]) hx hb dX8_bringsFrom_107 hl (by decide) rfl (fun ls hl => ?_)
            obtain ⟨x14, ex14⟩ : ∃ y : Int32, y = x2 + 1 := ⟨_, rfl⟩
            have hf := nc_let_at hf ex14
            refine lv_iinc (v := x14) (lv' := [(6, .int x14), (5, .int x1), (7, .int x7), (0, .ref o), (1, .int a1), (2, .int a2), (3, .int a3), (4, .int a4)]) hx hb dX8_bringsFrom_109 hl (k := 7) rfl (by rw [ex14]; rfl) (by decide) rfl (fun ls hl => ?_)
            refine lv_goto (tgt := 7) hx hb dX8_bringsFrom_112 (by decide) ?_
            exact ihrc3 _ _ hf _ _ _ hw (lv_sub hl [3, 4, 5, 6, 7, 1, 0] rfl)
          · have hf := nc_ifn hf c13
            refine lv_iload hx hb dX8_bringsFrom_100 (lv_at hl 7 rfl) ?_
            refine lv_goto (tgt := 107) hx hb dX8_bringsFrom_102 (by decide) ?_
            refine lv_istore (lv' := [(5, .int x2), (7, .int x7), (0, .ref o), (1, .int a1), (2, .int a2), (3, .int a3), (4, .int a4), (6, .int x2)]) hx hb dX8_bringsFrom_107 hl (by decide) rfl (fun ls hl => ?_)
            obtain ⟨x15, ex15⟩ : ∃ y : Int32, y = x2 + 1 := ⟨_, rfl⟩
            have hf := nc_let_at hf ex15
            refine lv_iinc (v := x15) (lv' := [(6, .int x15), (5, .int x2), (7, .int x7), (0, .ref o), (1, .int a1), (2, .int a2), (3, .int a3), (4, .int a4)]) hx hb dX8_bringsFrom_109 hl (k := 7) rfl (by rw [ex15]; rfl) (by decide) rfl (fun ls hl => ?_)
            refine lv_goto (tgt := 7) hx hb dX8_bringsFrom_112 (by decide) ?_
            exact ihrc3 _ _ hf _ _ _ hw (lv_sub hl [3, 4, 5, 6, 7, 1, 0] rfl)
      · have hf := nc_ifp hf c8
        refine lv_aload_n hx hb dX8_bringsFrom_35 rfl (lv_at hl 1 rfl) ?_
        refine gr_X8_43 cx hw (lModel_is h0) (lModel_when h0) ((lModel_when_L h0)).1 dX8_bringsFrom_36 ?_
        refine lv_iload_n hx hb dX8_bringsFrom_39 rfl (lv_at hl 2 rfl) ?_
        refine nc_ald cx hw (by decide) ((lModel_when_L h0)).1 ij4 ej4 (((lModel_when_L h0)).2 j4 lj4).1 (((lModel_when_L h0)).2 j4 lj4).2 dX8_bringsFrom_40 ?_
        refine lv_iload hx hb dX8_bringsFrom_41 (lv_at hl 7 rfl) ?_
        refine nc_ild cx hw (((lModel_when_L h0)).2 j4 lj4).2 ij6 ej6 dX8_bringsFrom_43 ?_
        refine lv_iload hx hb dX8_bringsFrom_44 (lv_at hl 5 rfl) ?_
        refine lv_icmp_ne (tgt := 54) hx hb dX8_bringsFrom_46 (by decide) (fun c16 => ?_) (fun c16 => ?_)
        · have hf := nc_ifn hf c16
          refine lv_bipush (v := (-9)) hx hb dX8_bringsFrom_54 (by decide) ?_
          exact nc_rpp hret hf rfl hw dX8_bringsFrom_56
        · have hf := nc_ifp hf c16
          refine lv_iload hx hb dX8_bringsFrom_49 (lv_at hl 6 rfl) ?_
          refine lv_goto (tgt := 56) hx hb dX8_bringsFrom_51 (by decide) ?_
          exact nc_rpp hret hf rfl hw dX8_bringsFrom_56
abbrev rm_X8_findOver : Room := { frames := 4, cells := 0, slots := 0, locals := 100 }
set_option maxRecDepth 100000 in
set_option maxHeartbeats 4000000 in
theorem c_X8_findOver (l : Launch) {G : nc_G} {K : nc_K} {o : Nat} (h0 : nc_LModel G K o) (mi : nc_Mem) (a1 : Int32) (res : nc_Mem × Int32) (hf : f_X8_findOver mi o a1 = some res) : nc_M l yX8_findOver cX8_findOver 5 (some .int) rm_X8_findOver 0 0 G K K [.ref o, .int a1] mi res.1 (some (.int res.2)) := by
  refine nc_meet_i (by decide) (Nat.le_of_ble_eq_true rfl) ?_
  intro p e s m args below meth c Q H locs ls cx hret hw hl
  have cx : nc_C p s m args c cX8_findOver 5 RX8 G := cx
  have hl : lv_has ls 5 [(0, .ref o), (1, .int a1)] := hl
  have hx := cx.1
  have hb := cx.2.1
  unfold f_X8_findOver at hf
  refine lv_aload_n hx hb dX8_findOver_0 rfl (lv_at hl 0 rfl) ?_
  refine gr_X8_31 cx hw (lModel_is h0) (lModel_thing h0) ((lModel_thing_L h0)).1 dX8_findOver_1 ?_
  refine lv_iload_n hx hb dX8_findOver_4 rfl (lv_at hl 1 rfl) ?_
  obtain ⟨j1, ej1, ij1, lj1, hf⟩ := nc_ix hf
  refine nc_ald cx hw (by decide) ((lModel_thing_L h0)).1 ij1 ej1 (((lModel_thing_L h0)).2 j1 lj1).1 (((lModel_thing_L h0)).2 j1 lj1).2 dX8_findOver_5 ?_
  refine lv_iconst (v := 3) hx hb dX8_findOver_6 (by decide) ?_
  refine nc_ild cx hw (((lModel_thing_L h0)).2 j1 lj1).2 (nc_lit (j := 3) rfl (by decide) (by decide)) rfl dX8_findOver_7 ?_
  refine lv_topi (fun x2 ex2 => ?_)
  have hf := nc_let_at hf ex2
  refine lv_istore_n (lv' := [(2, .int x2), (0, .ref o), (1, .int a1)]) hx hb dX8_findOver_8 rfl hl (by decide) rfl (fun ls hl => ?_)
  refine lv_iconst (v := 0) hx hb dX8_findOver_9 (by decide) ?_
  refine lv_istore_n (lv' := [(3, .int 0), (2, .int x2), (0, .ref o), (1, .int a1)]) hx hb dX8_findOver_10 rfl hl (by decide) rfl (fun ls hl => ?_)
  refine nc_loop_w (P := fun κ : Int32 → Int32 → nc_Mem → Option (nc_Mem × Int32) => ∀ (x3 : Int32) (x4 : Int32) (mi5 : nc_Mem), κ x3 x4 mi5 = some res → ∀ (H : Heap) (locs : List Loc) (ls : Array Slot), nc_W G K mi5 H locs → lv_has ls 5 [(0, .ref o), (1, .int a1), (2, .int x3), (3, .int x4)] → W p l e rm_X8_findOver s m args below meth c H locs 0 0 Q (F0 m 11 ls [])) ?_ ?_ 200 _ _ _ hf _ _ _ hw (lv_sub hl [2, 3, 1, 0] rfl)
  · intro x3 x4 mi5 hf; exact absurd hf (by intro q; cases q)
  · intro rc6 ihrc6 x3 x4 mi5 hf H locs ls hw hl
    unfold B_X8_findOver_11 at hf
    refine lv_iload_n hx hb dX8_findOver_11 rfl (lv_at hl 2 rfl) ?_
    refine lv_aload_n hx hb dX8_findOver_12 rfl (lv_at hl 0 rfl) ?_
    refine gr_X8_31 cx hw (lModel_is h0) (lModel_thing h0) ((lModel_thing_L h0)).1 dX8_findOver_13 ?_
    refine lv_iload_n hx hb dX8_findOver_16 rfl (lv_at hl 1 rfl) ?_
    refine nc_ald cx hw (by decide) ((lModel_thing_L h0)).1 ij1 ej1 (((lModel_thing_L h0)).2 j1 lj1).1 (((lModel_thing_L h0)).2 j1 lj1).2 dX8_findOver_17 ?_
    refine lv_iconst (v := 2) hx hb dX8_findOver_18 (by decide) ?_
    refine nc_ild cx hw (((lModel_thing_L h0)).2 j1 lj1).2 (nc_lit (j := 2) rfl (by decide) (by decide)) rfl dX8_findOver_19 ?_
    refine lv_icmp_eq (tgt := 88) hx hb dX8_findOver_20 (by decide) (fun c7 => ?_) (fun c7 => ?_)
    · have hf := nc_ifp hf c7
      refine lv_iload_n hx hb dX8_findOver_88 rfl (lv_at hl 3 rfl) ?_
      exact nc_rpm hret hf rfl hw dX8_findOver_89
    · have hf := nc_ifn hf c7
      refine lv_iconst (v := 0) hx hb dX8_findOver_23 (by decide) ?_
      refine lv_istore (lv' := [(4, .int 0), (0, .ref o), (1, .int a1), (2, .int x3), (3, .int x4)]) hx hb dX8_findOver_24 hl (by decide) rfl (fun ls hl => ?_)
      obtain ⟨k8, ek8, hf⟩ := nc_jn_of hf
      have hk8 : ∀ (x9 : Int32), k8 x9 = some res → ∀ (H : Heap) (locs : List Loc) (ls : Array Slot), nc_W G K mi5 H locs → lv_has ls 5 [(0, .ref o), (1, .int a1), (2, .int x3), (3, .int x4), (4, .int x9)] → W p l e rm_X8_findOver s m args below meth c H locs 0 0 Q (F0 m 51 ls []) := by
        intro x9 hf H locs ls hw hl
        have hf := ((congrFun ek8 x9)).symm.trans hf
        refine lv_aload_n hx hb dX8_findOver_51 rfl (lv_at hl 0 rfl) ?_
        refine gr_X8_52 cx hw (lModel_is h0) (lModel_over h0) (lModel_over_L h0) dX8_findOver_52 ?_
        refine lv_iload_n hx hb dX8_findOver_55 rfl (lv_at hl 3 rfl) ?_
        obtain ⟨x10, ex10⟩ : ∃ y : Int32, y = x4 + 1 := ⟨_, rfl⟩
        have hf := nc_let_at hf ex10
        refine lv_iinc (v := x10) (lv' := [(3, .int x10), (0, .ref o), (1, .int a1), (2, .int x3), (4, .int x9)]) hx hb dX8_findOver_56 hl (k := 3) rfl (by rw [ex10]; rfl) (by decide) rfl (fun ls hl => ?_)
        refine lv_iload hx hb dX8_findOver_59 (lv_at hl 4 rfl) ?_
        obtain ⟨j11, ej11, ij11, lj11, hf⟩ := nc_ix hf
        refine nc_ist cx hw (lModel_over_L h0) ij11 ej11 dX8_findOver_61 (fun mi12 H locs emi12 hw => ?_)
        have hf := nc_let_at hf emi12
        refine lv_aload_n hx hb dX8_findOver_62 rfl (lv_at hl 1 rfl) ?_
        refine gr_X8_40 cx hw (lModel_is h0) (lModel_stop h0) ((lModel_stop_L h0)).1 dX8_findOver_63 ?_
        refine lv_iload hx hb dX8_findOver_66 (lv_at hl 4 rfl) ?_
        obtain ⟨j13, ej13, ij13, lj13, hf⟩ := nc_ix hf
        refine nc_ald cx hw (by decide) ((lModel_stop_L h0)).1 ij13 ej13 (((lModel_stop_L h0)).2 j13 lj13).1 (((lModel_stop_L h0)).2 j13 lj13).2 dX8_findOver_68 ?_
        refine lv_aload_n hx hb dX8_findOver_69 rfl (lv_at hl 1 rfl) ?_
        refine lv_iload hx hb dX8_findOver_70 (lv_at hl 4 rfl) ?_
        refine lv_iload_n hx hb dX8_findOver_72 rfl (lv_at hl 2 rfl) ?_
        refine lv_iload_n hx hb dX8_findOver_73 rfl (lv_at hl 3 rfl) ?_
        refine lv_aload_n hx hb dX8_findOver_74 rfl (lv_at hl 1 rfl) ?_
        refine gr_X8_49 cx hw (lModel_is h0) (lModel_soon h0) (lModel_soon_L h0) dX8_findOver_75 ?_
        refine lv_iload_n hx hb dX8_findOver_78 rfl (lv_at hl 3 rfl) ?_
        obtain ⟨j14, ej14, ij14, lj14, hf⟩ := nc_ix hf
        refine nc_ild cx hw (lModel_soon_L h0) ij14 ej14 dX8_findOver_79 ?_
        obtain ⟨q15, hq15, hf⟩ := nc_bi hf
        refine nc_callVi cx hw lk_X8_192 (c_X8_bringsFrom l h0 mi12 x9 a1 x3 (mi12 (o + 50) j14) q15 hq15) (ci := 8) rfl (lModel_is h0) rfl hl.1 rfl (Nat.le_of_ble_eq_true rfl) ⟨rfl, rfl, Nat.le_of_ble_eq_true rfl, Nat.le_of_ble_eq_true rfl⟩ dX8_findOver_80 (fun H locs hw => ?_)
        obtain ⟨j16, ej16, ij16, lj16, hf⟩ := nc_ix hf
        refine nc_ild cx hw (((lModel_stop_L h0)).2 j13 lj13).2 ij16 ej16 dX8_findOver_83 ?_
        refine lv_topi (fun x17 ex17 => ?_)
        have hf := nc_let_at hf ex17
        refine lv_istore_n (lv' := [(2, .int x17), (3, .int x10), (0, .ref o), (1, .int a1), (4, .int x9)]) hx hb dX8_findOver_84 rfl hl (by decide) rfl (fun ls hl => ?_)
        refine lv_goto (tgt := 11) hx hb dX8_findOver_85 (by decide) ?_
        exact ihrc6 _ _ _ hf _ _ _ hw (lv_sub hl [2, 3, 0, 1] rfl)
      refine nc_loop_w (P := fun κ : Int32 → Option (nc_Mem × Int32) => ∀ (x18 : Int32), κ x18 = some res → ∀ (H : Heap) (locs : List Loc) (ls : Array Slot), nc_W G K mi5 H locs → lv_has ls 5 [(0, .ref o), (1, .int a1), (2, .int x3), (3, .int x4), (4, .int x18)] → W p l e rm_X8_findOver s m args below meth c H locs 0 0 Q (F0 m 26 ls [])) ?_ ?_ 200 _ hf _ _ _ hw (lv_sub hl [1, 2, 3, 4, 0] rfl)
      · intro x18 hf; exact absurd hf (by intro q; cases q)
      · intro rc19 ihrc19 x18 hf H locs ls hw hl
        unfold B_X8_findOver_26 at hf
        refine lv_aload_n hx hb dX8_findOver_26 rfl (lv_at hl 0 rfl) ?_
        refine lv_iload hx hb dX8_findOver_27 (lv_at hl 4 rfl) ?_
        refine lv_iload_n hx hb dX8_findOver_29 rfl (lv_at hl 1 rfl) ?_
        refine lv_iload_n hx hb dX8_findOver_30 rfl (lv_at hl 2 rfl) ?_
        refine lv_aload_n hx hb dX8_findOver_31 rfl (lv_at hl 0 rfl) ?_
        refine gr_X8_49 cx hw (lModel_is h0) (lModel_soon h0) (lModel_soon_L h0) dX8_findOver_32 ?_
        refine lv_iload_n hx hb dX8_findOver_35 rfl (lv_at hl 2 rfl) ?_
        obtain ⟨j20, ej20, ij20, lj20, hf⟩ := nc_ix hf
        refine nc_ild cx hw (lModel_soon_L h0) ij20 ej20 dX8_findOver_36 ?_
        obtain ⟨q21, hq21, hf⟩ := nc_bi hf
        refine nc_callVi cx hw lk_X8_192 (c_X8_bringsFrom l h0 mi5 x18 a1 x3 (mi5 (o + 50) j20) q21 hq21) (ci := 8) rfl (lModel_is h0) rfl hl.1 rfl (Nat.le_of_ble_eq_true rfl) ⟨rfl, rfl, Nat.le_of_ble_eq_true rfl, Nat.le_of_ble_eq_true rfl⟩ dX8_findOver_37 (fun H locs hw => ?_)
        refine lv_bipush (v := (-9)) hx hb dX8_findOver_40 (by decide) ?_
        refine lv_icmp_ne (tgt := 51) hx hb dX8_findOver_42 (by decide) (fun c22 => ?_) (fun c22 => ?_)
        · have hf := nc_ifn hf c22
          exact hk8 _ hf _ _ _ hw (lv_sub hl [0, 1, 2, 3, 4] rfl)
        · have hf := nc_ifp hf c22
          obtain ⟨x23, ex23⟩ : ∃ y : Int32, y = x18 + 1 := ⟨_, rfl⟩
          have hf := nc_let_at hf ex23
          refine lv_iinc (v := x23) (lv' := [(4, .int x23), (0, .ref o), (1, .int a1), (2, .int x3), (3, .int x4)]) hx hb dX8_findOver_45 hl (k := 4) rfl (by rw [ex23]; rfl) (by decide) rfl (fun ls hl => ?_)
          refine lv_goto (tgt := 26) hx hb dX8_findOver_48 (by decide) ?_
          exact ihrc19 _ hf _ _ _ hw (lv_sub hl [1, 2, 3, 4, 0] rfl)
abbrev rm_X8_over : Room := { frames := 5, cells := 0, slots := 0, locals := 126 }
set_option maxRecDepth 100000 in
set_option maxHeartbeats 4000000 in
theorem c_X8_over (l : Launch) {G : nc_G} {K : nc_K} {o : Nat} (h0 : nc_LModel G K o) (mi : nc_Mem) (a1 a2 : Int32) (res : nc_Mem × Int32) (hf : f_X8_over mi o a1 a2 = some res) : nc_M l yX8_over cX8_over 4 (some .int) rm_X8_over 0 0 G K K [.ref o, .int a1, .int a2] mi res.1 (some (.int res.2)) := by
  refine nc_meet_i (by decide) (Nat.le_of_ble_eq_true rfl) ?_
  intro p e s m args below meth c Q H locs ls cx hret hw hl
  have cx : nc_C p s m args c cX8_over 4 RX8 G := cx
  have hl : lv_has ls 4 [(0, .ref o), (1, .int a1), (2, .int a2)] := hl
  have hx := cx.1
  have hb := cx.2.1
  unfold f_X8_over at hf
  refine lv_aload_n hx hb dX8_over_0 rfl (lv_at hl 0 rfl) ?_
  refine lv_iload_n hx hb dX8_over_1 rfl (lv_at hl 1 rfl) ?_
  obtain ⟨q1, hq1, hf⟩ := nc_bi hf
  refine nc_callVi cx hw lk_X8_145 (c_X8_isThing l h0 mi a1 q1 hq1) (ci := 8) rfl (lModel_is h0) rfl hl.1 rfl (Nat.le_of_ble_eq_true rfl) ⟨rfl, rfl, Nat.le_of_ble_eq_true rfl, Nat.le_of_ble_eq_true rfl⟩ dX8_over_2 (fun H locs hw => ?_)
  refine lv_if_ne (tgt := 14) hx hb dX8_over_5 (by decide) (fun c2 => ?_) (fun c2 => ?_)
  · have hf := nc_ifn hf c2
    refine lv_iload_n hx hb dX8_over_14 rfl (lv_at hl 2 rfl) ?_
    refine lv_iconst (v := (-1)) hx hb dX8_over_15 (by decide) ?_
    refine lv_icmp_ge (tgt := 26) hx hb dX8_over_16 (by decide) (fun c3 => ?_) (fun c3 => ?_)
    · have hf := nc_ifp hf c3
      refine lv_aload_n hx hb dX8_over_26 rfl (lv_at hl 0 rfl) ?_
      obtain ⟨q4, hq4, hf⟩ := nc_bi hf
      refine nc_callVv cx hw lk_X8_185 (c_X8_findWays l h0 mi  q4 hq4) (ci := 8) rfl (lModel_is h0) rfl hl.1 rfl (Nat.le_of_ble_eq_true rfl) ⟨rfl, rfl, Nat.le_of_ble_eq_true rfl, Nat.le_of_ble_eq_true rfl⟩ dX8_over_27 (fun H locs hw => ?_)
      refine lv_aload_n hx hb dX8_over_30 rfl (lv_at hl 0 rfl) ?_
      refine lv_aload_n hx hb dX8_over_31 rfl (lv_at hl 0 rfl) ?_
      refine gi_X8_148 cx hw (lModel_is h0) dX8_over_32 ?_
      refine lv_iload_n hx hb dX8_over_35 rfl (lv_at hl 1 rfl) ?_
      refine lv_bipush (v := (-9)) hx hb dX8_over_36 (by decide) ?_
      obtain ⟨q5, hq5, hf⟩ := nc_bi hf
      refine nc_callVi cx hw lk_X8_188 (c_X8_soonestBy l h0 q4 (q4 o 11) a1 (-9) q5 hq5) (ci := 8) rfl (lModel_is h0) rfl hl.1 rfl (Nat.le_of_ble_eq_true rfl) ⟨rfl, rfl, Nat.le_of_ble_eq_true rfl, Nat.le_of_ble_eq_true rfl⟩ dX8_over_38 (fun H locs hw => ?_)
      refine lv_bipush (v := (-9)) hx hb dX8_over_41 (by decide) ?_
      refine lv_icmp_ne (tgt := 49) hx hb dX8_over_43 (by decide) (fun c6 => ?_) (fun c6 => ?_)
      · have hf := nc_ifn hf c6
        refine lv_aload_n hx hb dX8_over_49 rfl (lv_at hl 0 rfl) ?_
        refine lv_iload_n hx hb dX8_over_50 rfl (lv_at hl 1 rfl) ?_
        obtain ⟨q7, hq7, hf⟩ := nc_bi hf
        refine nc_callVi cx hw lk_X8_196 (c_X8_findOver l h0 q5.1 a1 q7 hq7) (ci := 8) rfl (lModel_is h0) rfl hl.1 rfl (Nat.le_of_ble_eq_true rfl) ⟨rfl, rfl, Nat.le_of_ble_eq_true rfl, Nat.le_of_ble_eq_true rfl⟩ dX8_over_51 (fun H locs hw => ?_)
        refine lv_istore_n (lv' := [(3, .int q7.2), (0, .ref o), (1, .int a1), (2, .int a2)]) hx hb dX8_over_54 rfl hl (by decide) rfl (fun ls hl => ?_)
        refine lv_iload_n hx hb dX8_over_55 rfl (lv_at hl 3 rfl) ?_
        refine lv_iconst (v := (-1)) hx hb dX8_over_56 (by decide) ?_
        refine lv_icmp_ne (tgt := 64) hx hb dX8_over_57 (by decide) (fun c8 => ?_) (fun c8 => ?_)
        · have hf := nc_ifn hf c8
          refine lv_iload_n hx hb dX8_over_64 rfl (lv_at hl 3 rfl) ?_
          refine lv_iload_n hx hb dX8_over_65 rfl (lv_at hl 0 rfl) ?_
          refine lv_icmp_ge (tgt := 82) hx hb dX8_over_66 (by decide) (fun c9 => ?_) (fun c9 => ?_)
          · have hf := nc_ifp hf c9
            refine lv_bipush (v := (-9)) hx hb dX8_over_82 (by decide) ?_
            exact nc_rpm hret hf rfl hw dX8_over_84
          · have hf := nc_ifn hf c9
            refine lv_aload_n hx hb dX8_over_69 rfl (lv_at hl 1 rfl) ?_
            refine gr_X8_52 cx hw (lModel_is h0) (lModel_over h0) (lModel_over_L h0) dX8_over_70 ?_
            refine lv_iload_n hx hb dX8_over_73 rfl (lv_at hl 0 rfl) ?_
            refine lv_iconst (v := 1) hx hb dX8_over_74 (by decide) ?_
            refine lv_isub hx hb dX8_over_75 ?_
            refine lv_iload_n hx hb dX8_over_76 rfl (lv_at hl 3 rfl) ?_
            refine lv_isub hx hb dX8_over_77 ?_
            obtain ⟨j10, ej10, ij10, lj10, hf⟩ := nc_ix hf
            refine nc_ild cx hw (lModel_over_L h0) ij10 ej10 dX8_over_78 ?_
            refine lv_goto (tgt := 84) hx hb dX8_over_79 (by decide) ?_
            exact nc_rpm hret hf rfl hw dX8_over_84
        · have hf := nc_ifp hf c8
          refine lv_iload_n hx hb dX8_over_60 rfl (lv_at hl 0 rfl) ?_
          refine lv_goto (tgt := 84) hx hb dX8_over_61 (by decide) ?_
          exact nc_rpm hret hf rfl hw dX8_over_84
      · have hf := nc_ifp hf c6
        refine lv_bipush (v := (-9)) hx hb dX8_over_46 (by decide) ?_
        exact nc_rpm hret hf rfl hw dX8_over_48
    · have hf := nc_ifn hf c3
      refine lv_aload_n hx hb dX8_over_19 rfl (lv_at hl 0 rfl) ?_
      refine lv_bipush (v := (-4)) hx hb dX8_over_20 (by decide) ?_
      obtain ⟨q11, hq11, hf⟩ := nc_bi hf
      refine nc_callVi cx hw lk_X8_71 (c_X8_refuse l h0 mi (-4) q11 hq11) (ci := 8) rfl (lModel_is h0) rfl hl.1 rfl (Nat.le_of_ble_eq_true rfl) ⟨rfl, rfl, Nat.le_of_ble_eq_true rfl, Nat.le_of_ble_eq_true rfl⟩ dX8_over_22 (fun H locs hw => ?_)
      exact nc_rpm hret hf rfl hw dX8_over_25
  · have hf := nc_ifp hf c2
    refine lv_aload_n hx hb dX8_over_8 rfl (lv_at hl 0 rfl) ?_
    refine lv_iconst (v := (-1)) hx hb dX8_over_9 (by decide) ?_
    obtain ⟨q12, hq12, hf⟩ := nc_bi hf
    refine nc_callVi cx hw lk_X8_71 (c_X8_refuse l h0 mi (-1) q12 hq12) (ci := 8) rfl (lModel_is h0) rfl hl.1 rfl (Nat.le_of_ble_eq_true rfl) ⟨rfl, rfl, Nat.le_of_ble_eq_true rfl, Nat.le_of_ble_eq_true rfl⟩ dX8_over_10 (fun H locs hw => ?_)
    exact nc_rpm hret hf rfl hw dX8_over_13
