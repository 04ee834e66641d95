abbrev rm_X7_refuse : Room := { frames := 0, cells := 0, slots := 0, locals := 0 }
set_option maxRecDepth 100000 in
set_option maxHeartbeats 4000000 in
theorem c_X7_refuse (l : Launch) {G : nc_G} {K : nc_K} {o : Nat} (h0 : nc_LNC G K o) (mi : nc_Mem) (a1 : Int32) (res : nc_Mem × Int32) (hf : f_X7_refuse mi o a1 = some res) : nc_M l yX7_refuse cX7_refuse 3 (some .int) rm_X7_refuse 0 0 G K K [.ref o, .int a1] mi res.1 (some (.int res.2)) := by
  refine nc_meet_i (by decide) (Nat.le_of_ble_eq_true rfl) ?_
  intro p e s m args below meth c Q H locs ls cx hret hw hl
  have cx : nc_C p s m args c cX7_refuse 3 RX7 G := cx
  have hl : lv_has ls 3 [(0, .ref o), (1, .int a1)] := hl
  have hx := cx.1
  have hb := cx.2.1
  unfold f_X7_refuse at hf
  refine lv_iload_n hx hb dX7_refuse_0 rfl (lv_at hl 1 rfl) ?_
  refine lv_ineg hx hb dX7_refuse_1 ?_
  refine lv_topi (fun x1 ex1 => ?_)
  have hf := nc_let_at hf ex1
  refine lv_istore_n (lv' := [(2, .int x1), (0, .ref o), (1, .int a1)]) hx hb dX7_refuse_2 rfl hl (by decide) rfl (fun ls hl => ?_)
  refine lv_iload_n hx hb dX7_refuse_3 rfl (lv_at hl 0 rfl) ?_
  refine lv_if_lt (tgt := 26) hx hb dX7_refuse_4 (by decide) (fun c2 => ?_) (fun c2 => ?_)
  · have hf := nc_ifp hf c2
    refine lv_iload_n hx hb dX7_refuse_26 rfl (lv_at hl 2 rfl) ?_
    exact nc_rpm hret hf rfl hw dX7_refuse_27
  · have hf := nc_ifn hf c2
    refine lv_iload_n hx hb dX7_refuse_7 rfl (lv_at hl 0 rfl) ?_
    refine lv_aload_n hx hb dX7_refuse_8 rfl (lv_at hl 1 rfl) ?_
    refine gr_X7_49 cx hw (lNC_is h0) (lNC_refusals h0) (lNC_refusals_L h0) dX7_refuse_9 ?_
    refine nc_alen (v := 7) cx hw (lNC_refusals_L h0) rfl dX7_refuse_12 ?_
    refine lv_icmp_ge (tgt := 26) hx hb dX7_refuse_13 (by decide) (fun c3 => ?_) (fun c3 => ?_)
    · have hf := nc_ifp hf c3
      refine lv_iload_n hx hb dX7_refuse_26 rfl (lv_at hl 2 rfl) ?_
      exact nc_rpm hret hf rfl hw dX7_refuse_27
    · have hf := nc_ifn hf c3
      refine lv_aload_n hx hb dX7_refuse_16 rfl (lv_at hl 1 rfl) ?_
      refine gr_X7_49 cx hw (lNC_is h0) (lNC_refusals h0) (lNC_refusals_L h0) dX7_refuse_17 ?_
      refine lv_iload_n hx hb dX7_refuse_20 rfl (lv_at hl 0 rfl) ?_
      refine lv_dup2_11 hx hb dX7_refuse_21 rfl rfl ?_
      obtain ⟨j4, ej4, ij4, lj4, hf⟩ := nc_ix hf
      refine nc_ild cx hw (lNC_refusals_L h0) ij4 ej4 dX7_refuse_22 ?_
      refine lv_iconst (v := 1) hx hb dX7_refuse_23 (by decide) ?_
      refine lv_iadd hx hb dX7_refuse_24 ?_
      refine nc_ist cx hw (lNC_refusals_L h0) ij4 ej4 dX7_refuse_25 (fun mi5 H locs emi5 hw => ?_)
      have hf := nc_let_at hf emi5
      refine lv_iload_n hx hb dX7_refuse_26 rfl (lv_at hl 2 rfl) ?_
      exact nc_rpm hret hf rfl hw dX7_refuse_27
abbrev rm_X1_add : Room := { frames := 0, cells := 0, slots := 0, locals := 0 }
set_option maxRecDepth 100000 in
set_option maxHeartbeats 4000000 in
theorem c_X1_add (l : Launch) {G : nc_G} {K : nc_K} {o : Nat} (h0 : nc_LLetters G K o) (mi : nc_Mem) (a1 : Int32) (res : nc_Mem × Int32) (hf : f_X1_add mi o a1 = some res) : nc_M l yX1_add cX1_add 2 (some .boolean) rm_X1_add 0 0 G K K [.ref o, .int a1] mi res.1 (some (.int res.2)) := by
  refine nc_meet_i (by decide) (Nat.le_of_ble_eq_true rfl) ?_
  intro p e s m args below meth c Q H locs ls cx hret hw hl
  have cx : nc_C p s m args c cX1_add 2 RX1 G := cx
  have hl : lv_has ls 2 [(0, .ref o), (1, .int a1)] := hl
  have hx := cx.1
  have hb := cx.2.1
  unfold f_X1_add at hf
  refine lv_aload_n hx hb dX1_add_0 rfl (lv_at hl 0 rfl) ?_
  refine gi_X1_18 cx hw (lLetters_is h0) dX1_add_1 ?_
  refine lv_aload_n hx hb dX1_add_4 rfl (lv_at hl 0 rfl) ?_
  refine gr_X1_9 cx hw (lLetters_is h0) (lLetters_sign h0) (lLetters_sign_L h0) dX1_add_5 ?_
  refine nc_alen (v := 64) cx hw (lLetters_sign_L h0) rfl dX1_add_8 ?_
  refine lv_icmp_lt (tgt := 14) hx hb dX1_add_9 (by decide) (fun c1 => ?_) (fun c1 => ?_)
  · have hf := nc_ifp hf c1
    refine lv_aload_n hx hb dX1_add_14 rfl (lv_at hl 0 rfl) ?_
    refine gr_X1_9 cx hw (lLetters_is h0) (lLetters_sign h0) (lLetters_sign_L h0) dX1_add_15 ?_
    refine lv_aload_n hx hb dX1_add_18 rfl (lv_at hl 0 rfl) ?_
    refine gi_X1_18 cx hw (lLetters_is h0) dX1_add_19 ?_
    refine lv_iload_n hx hb dX1_add_22 rfl (lv_at hl 1 rfl) ?_
    obtain ⟨j2, ej2, ij2, lj2, hf⟩ := nc_ix hf
    refine nc_ist cx hw (lLetters_sign_L h0) ij2 ej2 dX1_add_23 (fun mi3 H locs emi3 hw => ?_)
    have hf := nc_let_at hf emi3
    refine lv_aload_n hx hb dX1_add_24 rfl (lv_at hl 0 rfl) ?_
    refine lv_dup hx hb dX1_add_25 rfl ?_
    refine gi_X1_18 cx hw (lLetters_is h0) dX1_add_26 ?_
    refine lv_iconst (v := 1) hx hb dX1_add_29 (by decide) ?_
    refine lv_iadd hx hb dX1_add_30 ?_
    refine pi_X1_18 cx hw (lLetters_is h0) dX1_add_31 (fun mi4 H locs emi4 hw => ?_)
    have hf := nc_let_at hf emi4
    refine lv_iconst (v := 1) hx hb dX1_add_34 (by decide) ?_
    exact nc_rpm hret hf rfl hw dX1_add_35
  · have hf := nc_ifn hf c1
    refine lv_iconst (v := 0) hx hb dX1_add_12 (by decide) ?_
    exact nc_rpm hret hf rfl hw dX1_add_13
abbrev rm_X7_letter : Room := { frames := 1, cells := 0, slots := 0, locals := 22 }
set_option maxRecDepth 100000 in
set_option maxHeartbeats 4000000 in
theorem c_X7_letter (l : Launch) {G : nc_G} {K : nc_K} {o : Nat} (h0 : nc_LNC G K o) (mi : nc_Mem) (a1 : Int32) (res : nc_Mem × Int32) (hf : f_X7_letter mi o a1 = some res) : nc_M l yX7_letter cX7_letter 2 (some .int) rm_X7_letter 0 0 G K K [.ref o, .int a1] mi res.1 (some (.int res.2)) := by
  refine nc_meet_i (by decide) (Nat.le_of_ble_eq_true rfl) ?_
  intro p e s m args below meth c Q H locs ls cx hret hw hl
  have cx : nc_C p s m args c cX7_letter 2 RX7 G := cx
  have hl : lv_has ls 2 [(0, .ref o), (1, .int a1)] := hl
  have hx := cx.1
  have hb := cx.2.1
  unfold f_X7_letter at hf
  refine lv_iload_n hx hb dX7_letter_0 rfl (lv_at hl 1 rfl) ?_
  refine lv_if_ge (tgt := 11) hx hb dX7_letter_1 (by decide) (fun c1 => ?_) (fun c1 => ?_)
  · have hf := nc_ifp hf c1
    refine lv_iload_n hx hb dX7_letter_11 rfl (lv_at hl 1 rfl) ?_
    refine lv_sipush (v := 255) hx hb dX7_letter_12 (by decide) ?_
    obtain ⟨k2, ek2, hf⟩ := nc_jn_of hf
    have hk2 : ∀ (mi3 : nc_Mem), k2 mi3 = some res → ∀ (H : Heap) (locs : List Loc) (ls : Array Slot), nc_W G K mi3 H locs → lv_has ls 2 [(0, .ref o)] → W p l e rm_X7_letter s m args below meth c H locs 0 0 Q (F0 m 29 ls []) := by
      intro mi3 hf H locs ls hw hl
      have hf := ((congrFun ek2 mi3)).symm.trans hf
      refine lv_aload_n hx hb dX7_letter_29 rfl (lv_at hl 0 rfl) ?_
      refine lv_bipush (v := (-6)) hx hb dX7_letter_30 (by decide) ?_
      obtain ⟨q4, hq4, hf⟩ := nc_bi hf
      refine nc_callVi cx hw lk_X7_60 (c_X7_refuse l h0 mi3 (-6) q4 hq4) (ci := 7) rfl (lNC_is h0) rfl hl.1 rfl (Nat.le_of_ble_eq_true rfl) ⟨rfl, rfl, Nat.le_of_ble_eq_true rfl, Nat.le_of_ble_eq_true rfl⟩ dX7_letter_32 (fun H locs hw => ?_)
      exact nc_rpm hret hf rfl hw dX7_letter_35
    refine lv_icmp_gt (tgt := 29) hx hb dX7_letter_15 (by decide) (fun c5 => ?_) (fun c5 => ?_)
    · have hf := nc_ifp hf c5
      exact hk2 _ hf _ _ _ hw (lv_sub hl [0] rfl)
    · have hf := nc_ifn hf c5
      refine lv_aload_n hx hb dX7_letter_18 rfl (lv_at hl 0 rfl) ?_
      refine gr_X7_25 cx hw (lNC_is h0) (lNC_letters h0) (lLetters_is (lNC_letters_L h0)) dX7_letter_19 ?_
      refine lv_iload_n hx hb dX7_letter_22 rfl (lv_at hl 1 rfl) ?_
      obtain ⟨q6, hq6, hf⟩ := nc_bi hf
      refine nc_callVi cx hw lk_X7_64 (c_X1_add l (lNC_letters_L h0) mi a1 q6 hq6) (ci := 1) rfl (lLetters_is (lNC_letters_L h0)) rfl hl.1 rfl (Nat.le_of_ble_eq_true rfl) ⟨rfl, rfl, Nat.le_of_ble_eq_true rfl, Nat.le_of_ble_eq_true rfl⟩ dX7_letter_23 (fun H locs hw => ?_)
      refine lv_if_ne (tgt := 36) hx hb dX7_letter_26 (by decide) (fun c7 => ?_) (fun c7 => ?_)
      · have hf := nc_ifn hf c7
        refine lv_aload_n hx hb dX7_letter_36 rfl (lv_at hl 0 rfl) ?_
        refine gr_X7_25 cx hw (lNC_is h0) (lNC_letters h0) (lLetters_is (lNC_letters_L h0)) dX7_letter_37 ?_
        refine gi_X7_68 cx hw (lLetters_is (lNC_letters_L h0)) dX7_letter_40 ?_
        exact nc_rpm hret hf rfl hw dX7_letter_43
      · have hf := nc_ifp hf c7
        exact hk2 _ hf _ _ _ hw (lv_sub hl [0] rfl)
  · have hf := nc_ifn hf c1
    refine lv_aload_n hx hb dX7_letter_4 rfl (lv_at hl 0 rfl) ?_
    refine lv_bipush (v := (-4)) hx hb dX7_letter_5 (by decide) ?_
    obtain ⟨q8, hq8, hf⟩ := nc_bi hf
    refine nc_callVi cx hw lk_X7_60 (c_X7_refuse l h0 mi (-4) q8 hq8) (ci := 7) rfl (lNC_is h0) rfl hl.1 rfl (Nat.le_of_ble_eq_true rfl) ⟨rfl, rfl, Nat.le_of_ble_eq_true rfl, Nat.le_of_ble_eq_true rfl⟩ dX7_letter_7 (fun H locs hw => ?_)
    exact nc_rpm hret hf rfl hw dX7_letter_10
abbrev rm_X1_signAt : Room := { frames := 0, cells := 0, slots := 0, locals := 0 }
set_option maxRecDepth 100000 in
set_option maxHeartbeats 4000000 in
theorem c_X1_signAt (l : Launch) {G : nc_G} {K : nc_K} {o : Nat} (h0 : nc_LLetters G K o) (mi : nc_Mem) (a1 : Int32) (res : Int32) (hf : f_X1_signAt mi o a1 = some res) : nc_M l yX1_signAt cX1_signAt 2 (some .int) rm_X1_signAt 0 0 G K K [.ref o, .int a1] mi mi (some (.int res)) := by
  refine nc_meet_i (by decide) (Nat.le_of_ble_eq_true rfl) ?_
  intro p e s m args below meth c Q H locs ls cx hret hw hl
  have cx : nc_C p s m args c cX1_signAt 2 RX1 G := cx
  have hl : lv_has ls 2 [(0, .ref o), (1, .int a1)] := hl
  have hx := cx.1
  have hb := cx.2.1
  unfold f_X1_signAt at hf
  refine lv_iload_n hx hb dX1_signAt_0 rfl (lv_at hl 1 rfl) ?_
  refine lv_if_lt (tgt := 30) hx hb dX1_signAt_1 (by decide) (fun c1 => ?_) (fun c1 => ?_)
  · have hf := nc_ifp hf c1
    refine lv_iconst (v := (-1)) hx hb dX1_signAt_30 (by decide) ?_
    exact nc_rpp hret hf rfl hw dX1_signAt_31
  · have hf := nc_ifn hf c1
    refine lv_iload_n hx hb dX1_signAt_4 rfl (lv_at hl 1 rfl) ?_
    refine lv_aload_n hx hb dX1_signAt_5 rfl (lv_at hl 0 rfl) ?_
    refine gi_X1_18 cx hw (lLetters_is h0) dX1_signAt_6 ?_
    refine lv_icmp_ge (tgt := 30) hx hb dX1_signAt_9 (by decide) (fun c2 => ?_) (fun c2 => ?_)
    · have hf := nc_ifp hf c2
      refine lv_iconst (v := (-1)) hx hb dX1_signAt_30 (by decide) ?_
      exact nc_rpp hret hf rfl hw dX1_signAt_31
    · have hf := nc_ifn hf c2
      refine lv_iload_n hx hb dX1_signAt_12 rfl (lv_at hl 1 rfl) ?_
      refine lv_aload_n hx hb dX1_signAt_13 rfl (lv_at hl 0 rfl) ?_
      refine gr_X1_9 cx hw (lLetters_is h0) (lLetters_sign h0) (lLetters_sign_L h0) dX1_signAt_14 ?_
      refine nc_alen (v := 64) cx hw (lLetters_sign_L h0) rfl dX1_signAt_17 ?_
      refine lv_icmp_ge (tgt := 30) hx hb dX1_signAt_18 (by decide) (fun c3 => ?_) (fun c3 => ?_)
      · have hf := nc_ifp hf c3
        refine lv_iconst (v := (-1)) hx hb dX1_signAt_30 (by decide) ?_
        exact nc_rpp hret hf rfl hw dX1_signAt_31
      · have hf := nc_ifn hf c3
        refine lv_aload_n hx hb dX1_signAt_21 rfl (lv_at hl 0 rfl) ?_
        refine gr_X1_9 cx hw (lLetters_is h0) (lLetters_sign h0) (lLetters_sign_L h0) dX1_signAt_22 ?_
        refine lv_iload_n hx hb dX1_signAt_25 rfl (lv_at hl 1 rfl) ?_
        obtain ⟨j4, ej4, ij4, lj4, hf⟩ := nc_ix hf
        refine nc_ild cx hw (lLetters_sign_L h0) ij4 ej4 dX1_signAt_26 ?_
        refine lv_goto (tgt := 31) hx hb dX1_signAt_27 (by decide) ?_
        exact nc_rpp hret hf rfl hw dX1_signAt_31
abbrev rm_X1_formOf : Room := { frames := 0, cells := 0, slots := 0, locals := 0 }
set_option maxRecDepth 100000 in
set_option maxHeartbeats 4000000 in
theorem c_X1_formOf (l : Launch) {G : nc_G} {K : nc_K} {o : Nat} (h0 : nc_LLetters G K o) (mi : nc_Mem) (a1 : Int32) (res : Nat) (hf : f_X1_formOf mi o a1 = res) : nc_M l yX1_formOf cX1_formOf 2 (Option.some (Jvm.ClassFile.FieldType.object "java/lang/String")) rm_X1_formOf 0 0 G K K [.ref o, .int a1] mi mi (some (.ref (nc_str G res))) := by
  refine nc_meet_s (by decide) (Nat.le_of_ble_eq_true rfl) ?_
  intro p e s m args below meth c Q H locs ls cx hret hw hl
  have cx : nc_C p s m args c cX1_formOf 2 RX1 G := cx
  have hl : lv_has ls 2 [(0, .ref o), (1, .int a1)] := hl
  have hx := cx.1
  have hb := cx.2.1
  unfold f_X1_formOf at hf
  refine lv_iload_n hx hb dX1_formOf_0 rfl (lv_at hl 1 rfl) ?_
  by_cases c1 : a1 = 110
  · have hf := nc_ifp hf c1
    refine lv_tableIn (tgt := 56) (off := 55) hx hb dX1_formOf_1 (by rw [c1]; decide) (by rw [c1]; decide) (by rw [c1]; rfl) (by decide) ?_
    refine nc_ldcs 0 (by decide) cx rfl dX1_formOf_56 ?_
    exact nc_stp hret hf hw dX1_formOf_58
  · have hf := nc_ifn hf c1
    by_cases c2 : a1 = 111
    · have hf := nc_ifp hf c2
      refine lv_tableIn (tgt := 68) (off := 67) hx hb dX1_formOf_1 (by rw [c2]; decide) (by rw [c2]; decide) (by rw [c2]; rfl) (by decide) ?_
      refine nc_ldcs 4 (by decide) cx rfl dX1_formOf_68 ?_
      exact nc_stp hret hf hw dX1_formOf_70
    · have hf := nc_ifn hf c2
      by_cases c3 : a1 = 112
      · have hf := nc_ifp hf c3
        refine lv_tableIn (tgt := 62) (off := 61) hx hb dX1_formOf_1 (by rw [c3]; decide) (by rw [c3]; decide) (by rw [c3]; rfl) (by decide) ?_
        refine nc_ldcs 2 (by decide) cx rfl dX1_formOf_62 ?_
        exact nc_stp hret hf hw dX1_formOf_64
      · have hf := nc_ifn hf c3
        by_cases c4 : a1 = 113
        · have hf := nc_ifp hf c4
          refine lv_tableIn (tgt := 68) (off := 67) hx hb dX1_formOf_1 (by rw [c4]; decide) (by rw [c4]; decide) (by rw [c4]; rfl) (by decide) ?_
          refine nc_ldcs 4 (by decide) cx rfl dX1_formOf_68 ?_
          exact nc_stp hret hf hw dX1_formOf_70
        · have hf := nc_ifn hf c4
          by_cases c5 : a1 = 114
          · have hf := nc_ifp hf c5
            refine lv_tableIn (tgt := 68) (off := 67) hx hb dX1_formOf_1 (by rw [c5]; decide) (by rw [c5]; decide) (by rw [c5]; rfl) (by decide) ?_
            refine nc_ldcs 4 (by decide) cx rfl dX1_formOf_68 ?_
            exact nc_stp hret hf hw dX1_formOf_70
          · have hf := nc_ifn hf c5
            by_cases c6 : a1 = 115
            · have hf := nc_ifp hf c6
              refine lv_tableIn (tgt := 68) (off := 67) hx hb dX1_formOf_1 (by rw [c6]; decide) (by rw [c6]; decide) (by rw [c6]; rfl) (by decide) ?_
              refine nc_ldcs 4 (by decide) cx rfl dX1_formOf_68 ?_
              exact nc_stp hret hf hw dX1_formOf_70
            · have hf := nc_ifn hf c6
              by_cases c7 : a1 = 116
              · have hf := nc_ifp hf c7
                refine lv_tableIn (tgt := 65) (off := 64) hx hb dX1_formOf_1 (by rw [c7]; decide) (by rw [c7]; decide) (by rw [c7]; rfl) (by decide) ?_
                refine nc_ldcs 3 (by decide) cx rfl dX1_formOf_65 ?_
                exact nc_stp hret hf hw dX1_formOf_67
              · have hf := nc_ifn hf c7
                by_cases c8 : a1 = 117
                · have hf := nc_ifp hf c8
                  refine lv_tableIn (tgt := 68) (off := 67) hx hb dX1_formOf_1 (by rw [c8]; decide) (by rw [c8]; decide) (by rw [c8]; rfl) (by decide) ?_
                  refine nc_ldcs 4 (by decide) cx rfl dX1_formOf_68 ?_
                  exact nc_stp hret hf hw dX1_formOf_70
                · have hf := nc_ifn hf c8
                  by_cases c9 : a1 = 118
                  · have hf := nc_ifp hf c9
                    refine lv_tableIn (tgt := 68) (off := 67) hx hb dX1_formOf_1 (by rw [c9]; decide) (by rw [c9]; decide) (by rw [c9]; rfl) (by decide) ?_
                    refine nc_ldcs 4 (by decide) cx rfl dX1_formOf_68 ?_
                    exact nc_stp hret hf hw dX1_formOf_70
                  · have hf := nc_ifn hf c9
                    by_cases c10 : a1 = 119
                    · have hf := nc_ifp hf c10
                      refine lv_tableIn (tgt := 59) (off := 58) hx hb dX1_formOf_1 (by rw [c10]; decide) (by rw [c10]; decide) (by rw [c10]; rfl) (by decide) ?_
                      refine nc_ldcs 1 (by decide) cx rfl dX1_formOf_59 ?_
                      exact nc_stp hret hf hw dX1_formOf_61
                    · have hf := nc_ifn hf c10
                      refine lv_tableOut (tgt := 68) hx hb dX1_formOf_1 (by have nc1 := lv_neT (a := 110) c1 (by decide); have nc2 := lv_neT (a := 111) c2 (by decide); have nc3 := lv_neT (a := 112) c3 (by decide); have nc4 := lv_neT (a := 113) c4 (by decide); have nc5 := lv_neT (a := 114) c5 (by decide); have nc6 := lv_neT (a := 115) c6 (by decide); have nc7 := lv_neT (a := 116) c7 (by decide); have nc8 := lv_neT (a := 117) c8 (by decide); have nc9 := lv_neT (a := 118) c9 (by decide); have nc10 := lv_neT (a := 119) c10 (by decide); omega) (by decide) ?_
                      refine nc_ldcs 4 (by decide) cx rfl dX1_formOf_68 ?_
                      exact nc_stp hret hf hw dX1_formOf_70
abbrev rm_X1_digitsAt : Room := { frames := 1, cells := 0, slots := 0, locals := 21 }
set_option maxRecDepth 100000 in
set_option maxHeartbeats 4000000 in
theorem c_X1_digitsAt (l : Launch) {G : nc_G} {K : nc_K} {o : Nat} (h0 : nc_LLetters G K o) (mi : nc_Mem) (a1 a2 : Int32) (res : Int32) (hf : f_X1_digitsAt mi o a1 a2 = some res) : nc_M l yX1_digitsAt cX1_digitsAt 4 (some .int) rm_X1_digitsAt 0 0 G K K [.ref o, .int a1, .int a2] mi mi (some (.int res)) := by
  refine nc_meet_i (by decide) (Nat.le_of_ble_eq_true rfl) ?_
  intro p e s m args below meth c Q H locs ls cx hret hw hl
  have cx : nc_C p s m args c cX1_digitsAt 4 RX1 G := cx
  have hl : lv_has ls 4 [(0, .ref o), (1, .int a1), (2, .int a2)] := hl
  have hx := cx.1
  have hb := cx.2.1
  unfold f_X1_digitsAt at hf
  refine lv_iconst (v := 0) hx hb dX1_digitsAt_0 (by decide) ?_
  refine lv_istore_n (lv' := [(3, .int 0), (0, .ref o), (1, .int a1), (2, .int a2)]) hx hb dX1_digitsAt_1 rfl hl (by decide) rfl (fun ls hl => ?_)
  refine nc_loop_w (P := fun κ : Int32 → Option (Int32) => ∀ (x1 : Int32), κ x1 = some res → ∀ (H : Heap) (locs : List Loc) (ls : Array Slot), nc_W G K mi H locs → lv_has ls 4 [(0, .ref o), (1, .int a1), (2, .int a2), (3, .int x1)] → W p l e rm_X1_digitsAt s m args below meth c H locs 0 0 Q (F0 m 2 ls [])) ?_ ?_ 200 _ hf _ _ _ hw (lv_sub hl [1, 2, 3, 0] rfl)
  · intro x1 hf; exact absurd hf (by intro q; cases q)
  · intro rc2 ihrc2 x1 hf H locs ls hw hl
    unfold B_X1_digitsAt_2 at hf
    refine lv_iload_n hx hb dX1_digitsAt_2 rfl (lv_at hl 3 rfl) ?_
    refine lv_iload_n hx hb dX1_digitsAt_3 rfl (lv_at hl 2 rfl) ?_
    refine lv_icmp_ge (tgt := 37) hx hb dX1_digitsAt_4 (by decide) (fun c3 => ?_) (fun c3 => ?_)
    · have hf := nc_ifp hf c3
      refine lv_iload_n hx hb dX1_digitsAt_37 rfl (lv_at hl 3 rfl) ?_
      exact nc_rpp hret hf rfl hw dX1_digitsAt_38
    · have hf := nc_ifn hf c3
      refine lv_aload_n hx hb dX1_digitsAt_7 rfl (lv_at hl 0 rfl) ?_
      refine lv_iload_n hx hb dX1_digitsAt_8 rfl (lv_at hl 1 rfl) ?_
      refine lv_iload_n hx hb dX1_digitsAt_9 rfl (lv_at hl 3 rfl) ?_
      refine lv_iadd hx hb dX1_digitsAt_10 ?_
      obtain ⟨q4, hq4, hf⟩ := nc_bi hf
      refine nc_callVi cx hw lk_X1_26 (c_X1_signAt l h0 mi (a1 + x1) q4 hq4) (ci := 1) rfl (lLetters_is h0) rfl hl.1 rfl (Nat.le_of_ble_eq_true rfl) ⟨rfl, rfl, Nat.le_of_ble_eq_true rfl, Nat.le_of_ble_eq_true rfl⟩ dX1_digitsAt_11 (fun H locs hw => ?_)
      refine lv_bipush (v := 48) hx hb dX1_digitsAt_14 (by decide) ?_
      refine lv_icmp_lt (tgt := 37) hx hb dX1_digitsAt_16 (by decide) (fun c5 => ?_) (fun c5 => ?_)
      · have hf := nc_ifp hf c5
        refine lv_iload_n hx hb dX1_digitsAt_37 rfl (lv_at hl 3 rfl) ?_
        exact nc_rpp hret hf rfl hw dX1_digitsAt_38
      · have hf := nc_ifn hf c5
        refine lv_aload_n hx hb dX1_digitsAt_19 rfl (lv_at hl 0 rfl) ?_
        refine lv_iload_n hx hb dX1_digitsAt_20 rfl (lv_at hl 1 rfl) ?_
        refine lv_iload_n hx hb dX1_digitsAt_21 rfl (lv_at hl 3 rfl) ?_
        refine lv_iadd hx hb dX1_digitsAt_22 ?_
        obtain ⟨q6, hq6, hf⟩ := nc_bi hf
        refine nc_callVi cx hw lk_X1_26 (c_X1_signAt l h0 mi (a1 + x1) q6 hq6) (ci := 1) rfl (lLetters_is h0) rfl hl.1 rfl (Nat.le_of_ble_eq_true rfl) ⟨rfl, rfl, Nat.le_of_ble_eq_true rfl, Nat.le_of_ble_eq_true rfl⟩ dX1_digitsAt_23 (fun H locs hw => ?_)
        refine lv_bipush (v := 57) hx hb dX1_digitsAt_26 (by decide) ?_
        refine lv_icmp_gt (tgt := 37) hx hb dX1_digitsAt_28 (by decide) (fun c7 => ?_) (fun c7 => ?_)
        · have hf := nc_ifp hf c7
          refine lv_iload_n hx hb dX1_digitsAt_37 rfl (lv_at hl 3 rfl) ?_
          exact nc_rpp hret hf rfl hw dX1_digitsAt_38
        · have hf := nc_ifn hf c7
          obtain ⟨x8, ex8⟩ : ∃ y : Int32, y = x1 + 1 := ⟨_, rfl⟩
          have hf := nc_let_at hf ex8
          refine lv_iinc (v := x8) (lv' := [(3, .int x8), (0, .ref o), (1, .int a1), (2, .int a2)]) hx hb dX1_digitsAt_31 hl (k := 3) rfl (by rw [ex8]; rfl) (by decide) rfl (fun ls hl => ?_)
          refine lv_goto (tgt := 2) hx hb dX1_digitsAt_34 (by decide) ?_
          exact ihrc2 _ hf _ _ _ hw (lv_sub hl [1, 2, 3, 0] rfl)
abbrev rm_X1_valueOf : Room := { frames := 1, cells := 0, slots := 0, locals := 21 }
set_option maxRecDepth 100000 in
set_option maxHeartbeats 4000000 in
theorem c_X1_valueOf (l : Launch) {G : nc_G} {K : nc_K} {o : Nat} (h0 : nc_LLetters G K o) (mi : nc_Mem) (a1 a2 : Int32) (res : Int32) (hf : f_X1_valueOf mi o a1 a2 = some res) : nc_M l yX1_valueOf cX1_valueOf 5 (some .int) rm_X1_valueOf 0 0 G K K [.ref o, .int a1, .int a2] mi mi (some (.int res)) := by
  refine nc_meet_i (by decide) (Nat.le_of_ble_eq_true rfl) ?_
  intro p e s m args below meth c Q H locs ls cx hret hw hl
  have cx : nc_C p s m args c cX1_valueOf 5 RX1 G := cx
  have hl : lv_has ls 5 [(0, .ref o), (1, .int a1), (2, .int a2)] := hl
  have hx := cx.1
  have hb := cx.2.1
  unfold f_X1_valueOf at hf
  refine lv_iconst (v := 0) hx hb dX1_valueOf_0 (by decide) ?_
  refine lv_istore_n (lv' := [(3, .int 0), (0, .ref o), (1, .int a1), (2, .int a2)]) hx hb dX1_valueOf_1 rfl hl (by decide) rfl (fun ls hl => ?_)
  refine lv_iconst (v := 0) hx hb dX1_valueOf_2 (by decide) ?_
  refine lv_istore (lv' := [(4, .int 0), (3, .int 0), (0, .ref o), (1, .int a1), (2, .int a2)]) hx hb dX1_valueOf_3 hl (by decide) rfl (fun ls hl => ?_)
  refine nc_loop_w (P := fun κ : Int32 → Int32 → Option (Int32) => ∀ (x1 : Int32) (x2 : Int32), κ x1 x2 = some res → ∀ (H : Heap) (locs : List Loc) (ls : Array Slot), nc_W G K mi H locs → lv_has ls 5 [(0, .ref o), (1, .int a1), (2, .int a2), (3, .int x1), (4, .int x2)] → W p l e rm_X1_valueOf s m args below meth c H locs 0 0 Q (F0 m 5 ls [])) ?_ ?_ 200 _ _ hf _ _ _ hw (lv_sub hl [2, 3, 4, 1, 0] rfl)
  · intro x1 x2 hf; exact absurd hf (by intro q; cases q)
  · intro rc3 ihrc3 x1 x2 hf H locs ls hw hl
    unfold B_X1_valueOf_5 at hf
    refine lv_iload hx hb dX1_valueOf_5 (lv_at hl 4 rfl) ?_
    refine lv_iload_n hx hb dX1_valueOf_7 rfl (lv_at hl 2 rfl) ?_
    refine lv_icmp_ge (tgt := 34) hx hb dX1_valueOf_8 (by decide) (fun c4 => ?_) (fun c4 => ?_)
    · have hf := nc_ifp hf c4
      refine lv_iload_n hx hb dX1_valueOf_34 rfl (lv_at hl 3 rfl) ?_
      exact nc_rpp hret hf rfl hw dX1_valueOf_35
    · have hf := nc_ifn hf c4
      refine lv_bipush (v := 10) hx hb dX1_valueOf_11 (by decide) ?_
      refine lv_iload_n hx hb dX1_valueOf_13 rfl (lv_at hl 3 rfl) ?_
      refine lv_imul hx hb dX1_valueOf_14 ?_
      refine lv_aload_n hx hb dX1_valueOf_15 rfl (lv_at hl 0 rfl) ?_
      refine lv_iload_n hx hb dX1_valueOf_16 rfl (lv_at hl 1 rfl) ?_
      refine lv_iload hx hb dX1_valueOf_17 (lv_at hl 4 rfl) ?_
      refine lv_iadd hx hb dX1_valueOf_19 ?_
      obtain ⟨q5, hq5, hf⟩ := nc_bi hf
      refine nc_callVi cx hw lk_X1_26 (c_X1_signAt l h0 mi (a1 + x2) q5 hq5) (ci := 1) rfl (lLetters_is h0) rfl hl.1 rfl (Nat.le_of_ble_eq_true rfl) ⟨rfl, rfl, Nat.le_of_ble_eq_true rfl, Nat.le_of_ble_eq_true rfl⟩ dX1_valueOf_20 (fun H locs hw => ?_)
      refine lv_iadd hx hb dX1_valueOf_23 ?_
      refine lv_bipush (v := 48) hx hb dX1_valueOf_24 (by decide) ?_
      refine lv_isub hx hb dX1_valueOf_26 ?_
      refine lv_topi (fun x6 ex6 => ?_)
      have hf := nc_let_at hf ex6
      refine lv_istore_n (lv' := [(3, .int x6), (0, .ref o), (1, .int a1), (2, .int a2), (4, .int x2)]) hx hb dX1_valueOf_27 rfl hl (by decide) rfl (fun ls hl => ?_)
      obtain ⟨x7, ex7⟩ : ∃ y : Int32, y = x2 + 1 := ⟨_, rfl⟩
      have hf := nc_let_at hf ex7
      refine lv_iinc (v := x7) (lv' := [(4, .int x7), (3, .int x6), (0, .ref o), (1, .int a1), (2, .int a2)]) hx hb dX1_valueOf_28 hl (k := 4) rfl (by rw [ex7]; rfl) (by decide) rfl (fun ls hl => ?_)
      refine lv_goto (tgt := 5) hx hb dX1_valueOf_31 (by decide) ?_
      exact ihrc3 _ _ hf _ _ _ hw (lv_sub hl [2, 3, 4, 1, 0] rfl)
abbrev rm_X1_read : Room := { frames := 12, cells := 0, slots := 0, locals := 400 }
set_option maxRecDepth 100000 in
set_option maxHeartbeats 4000000 in
theorem c_X1_read (l : Launch) {G : nc_G} {K : nc_K} {o : Nat} (h0 : nc_LLetters G K o) (mi : nc_Mem) (a1 : Int32) (res : nc_Mem × Int32) (hf : f_X1_read mi o a1 = some res) : nc_M l yX1_read cX1_read 8 (some .int) rm_X1_read 0 0 G K K [.ref o, .int a1] mi res.1 (some (.int res.2)) := by
  refine nc_meet_i (by decide) (Nat.le_of_ble_eq_true rfl) ?_
  intro p e s m args below meth c Q H locs ls cx hret hw hl
  have cx : nc_C p s m args c cX1_read 8 RX1 G := cx
  have hl : lv_has ls 8 [(0, .ref o), (1, .int a1)] := hl
  have hx := cx.1
  have hb := cx.2.1
  unfold f_X1_read at hf
  refine lv_aload_n hx hb dX1_read_0 rfl (lv_at hl 0 rfl) ?_
  refine lv_aload_n hx hb dX1_read_1 rfl (lv_at hl 0 rfl) ?_
  refine lv_iload_n hx hb dX1_read_2 rfl (lv_at hl 1 rfl) ?_
  obtain ⟨q1, hq1, hf⟩ := nc_bi hf
  refine nc_callVi cx hw lk_X1_26 (c_X1_signAt l h0 mi a1 q1 hq1) (ci := 1) rfl (lLetters_is h0) rfl hl.1 rfl (Nat.le_of_ble_eq_true rfl) ⟨rfl, rfl, Nat.le_of_ble_eq_true rfl, Nat.le_of_ble_eq_true rfl⟩ dX1_read_3 (fun H locs hw => ?_)
  refine pi_X1_29 cx hw (lLetters_is h0) dX1_read_6 (fun mi2 H locs emi2 hw => ?_)
  have hf := nc_let_at hf emi2
  refine lv_aload_n hx hb dX1_read_9 rfl (lv_at hl 0 rfl) ?_
  refine lv_aload_n hx hb dX1_read_10 rfl (lv_at hl 0 rfl) ?_
  refine gi_X1_29 cx hw (lLetters_is h0) dX1_read_11 ?_
  refine nc_callVs cx hw lk_X1_32 (c_X1_formOf l h0 mi2 (mi2 o 3) _ rfl) (ci := 1) rfl (lLetters_is h0) rfl hl.1 rfl (Nat.le_of_ble_eq_true rfl) ⟨rfl, rfl, Nat.le_of_ble_eq_true rfl, Nat.le_of_ble_eq_true rfl⟩ dX1_read_14 (fun H locs hw => ?_)
  refine lv_astore_n (lv' := [(2, .ref (nc_str G (f_X1_formOf mi2 o (mi2 o 3)))), (0, .ref o), (1, .int a1)]) hx hb dX1_read_17 rfl hl (by decide) rfl (fun ls hl => ?_)
  refine lv_aload_n hx hb dX1_read_18 rfl (lv_at hl 0 rfl) ?_
  obtain ⟨h5_2, hf⟩ := nc_s5_of hf
  refine nc_callTi cx hw lk_X1_36 (c_J0_isEmpty l h5_2 mi2) h5_2 rfl hl.1 rfl (Nat.le_of_ble_eq_true rfl) ⟨rfl, rfl, Nat.le_of_ble_eq_true rfl, Nat.le_of_ble_eq_true rfl⟩ dX1_read_19 (fun H locs hw => ?_)
  refine lv_if_eq (tgt := 29) hx hb dX1_read_22 (by decide) (fun c4 => ?_) (fun c4 => ?_)
  · have hf := nc_ifp hf c4
    refine lv_iload_n hx hb dX1_read_29 rfl (lv_at hl 2 rfl) ?_
    refine lv_iconst (v := 1) hx hb dX1_read_30 (by decide) ?_
    refine lv_iadd hx hb dX1_read_31 ?_
    refine lv_topi (fun x5 ex5 => ?_)
    have hf := nc_let_at hf ex5
    refine lv_istore_n (lv' := [(3, .int x5), (2, .ref (nc_str G (f_X1_formOf mi2 o (mi2 o 3)))), (0, .ref o), (1, .int a1)]) hx hb dX1_read_32 rfl hl (by decide) rfl (fun ls hl => ?_)
    refine lv_iconst (v := 0) hx hb dX1_read_33 (by decide) ?_
    refine lv_istore (lv' := [(4, .int 0), (3, .int x5), (2, .ref (nc_str G (f_X1_formOf mi2 o (mi2 o 3)))), (0, .ref o), (1, .int a1)]) hx hb dX1_read_34 hl (by decide) rfl (fun ls hl => ?_)
    refine lv_iconst (v := 0) hx hb dX1_read_36 (by decide) ?_
    refine lv_istore (lv' := [(5, .int 0), (4, .int 0), (3, .int x5), (2, .ref (nc_str G (f_X1_formOf mi2 o (mi2 o 3)))), (0, .ref o), (1, .int a1)]) hx hb dX1_read_37 hl (by decide) rfl (fun ls hl => ?_)
    refine nc_loop_w (P := fun κ : Int32 → Int32 → Int32 → nc_Mem → Option (nc_Mem × Int32) => ∀ (x6 : Int32) (x7 : Int32) (x8 : Int32) (mi9 : nc_Mem), κ x6 x7 x8 mi9 = some res → ∀ (H : Heap) (locs : List Loc) (ls : Array Slot), nc_W G K mi9 H locs → lv_has ls 8 [(0, .ref o), (2, .ref (nc_str G (f_X1_formOf mi2 o (mi2 o 3)))), (3, .int x6), (4, .int x7), (5, .int x8)] → W p l e rm_X1_read s m args below meth c H locs 0 0 Q (F0 m 39 ls [])) ?_ ?_ 200 _ _ _ _ hf _ _ _ hw (lv_sub hl [4, 3, 2, 1, 0] rfl)
    · intro x6 x7 x8 mi9 hf; exact absurd hf (by intro q; cases q)
    · intro rc10 ihrc10 x6 x7 x8 mi9 hf H locs ls hw hl
      unfold B_X1_read_39 at hf
      refine lv_iload hx hb dX1_read_39 (lv_at hl 4 rfl) ?_
      refine lv_aload_n hx hb dX1_read_41 rfl (lv_at hl 1 rfl) ?_
      refine nc_callTi cx hw lk_X1_42 (c_J0_length l h5_2 mi9) h5_2 rfl hl.1 rfl (Nat.le_of_ble_eq_true rfl) ⟨rfl, rfl, Nat.le_of_ble_eq_true rfl, Nat.le_of_ble_eq_true rfl⟩ dX1_read_42 (fun H locs hw => ?_)
      refine lv_icmp_ge (tgt := 152) hx hb dX1_read_45 (by decide) (fun c11 => ?_) (fun c11 => ?_)
      · have hf := nc_ifp hf c11
        refine lv_iload_n hx hb dX1_read_152 rfl (lv_at hl 2 rfl) ?_
        exact nc_rpm hret hf rfl hw dX1_read_153
      · have hf := nc_ifn hf c11
        refine lv_aload_n hx hb dX1_read_48 rfl (lv_at hl 1 rfl) ?_
        refine lv_iload hx hb dX1_read_49 (lv_at hl 4 rfl) ?_
        obtain ⟨j12, ej12, ij12, lj12, hf⟩ := nc_ix hf
        refine nc_callTi cx hw lk_X1_45 (c_J0_charAt l h5_2 mi9 x8 ij12 ej12) h5_2 rfl hl.1 rfl (Nat.le_of_ble_eq_true rfl) ⟨rfl, rfl, Nat.le_of_ble_eq_true rfl, Nat.le_of_ble_eq_true rfl⟩ dX1_read_51 (fun H locs hw => ?_)
        refine lv_topi (fun x13 ex13 => ?_)
        have hf := nc_let_at hf ex13
        refine lv_istore (lv' := [(6, .int x13), (0, .ref o), (2, .ref (nc_str G (f_X1_formOf mi2 o (mi2 o 3)))), (3, .int x6), (4, .int x7), (5, .int x8)]) hx hb dX1_read_54 hl (by decide) rfl (fun ls hl => ?_)
        refine lv_iconst (v := 0) hx hb dX1_read_56 (by decide) ?_
        refine lv_istore (lv' := [(7, .int 0), (6, .int x13), (0, .ref o), (2, .ref (nc_str G (f_X1_formOf mi2 o (mi2 o 3)))), (3, .int x6), (4, .int x7), (5, .int x8)]) hx hb dX1_read_57 hl (by decide) rfl (fun ls hl => ?_)
        refine lv_iload hx hb dX1_read_59 (lv_at hl 1 rfl) ?_
        refine lv_bipush (v := 44) hx hb dX1_read_61 (by decide) ?_
        obtain ⟨k14, ek14, hf⟩ := nc_jn_of hf
        have hk14 : ∀ (x15 : Int32) (x16 : Int32) (mi17 : nc_Mem), k14 x15 x16 mi17 = some res → ∀ (H : Heap) (locs : List Loc) (ls : Array Slot), nc_W G K mi17 H locs → lv_has ls 8 [(0, .ref o), (2, .ref (nc_str G (f_X1_formOf mi2 o (mi2 o 3)))), (3, .int x6), (4, .int x15), (5, .int x8), (7, .int x16)] → W p l e rm_X1_read s m args below meth c H locs 0 0 Q (F0 m 132 ls []) := by
          intro x15 x16 mi17 hf H locs ls hw hl
          have hf := ((congrFun (congrFun (congrFun ek14 x15) x16) mi17)).symm.trans hf
          refine lv_iload hx hb dX1_read_132 (lv_at hl 5 rfl) ?_
          refine lv_if_ne (tgt := 141) hx hb dX1_read_134 (by decide) (fun c18 => ?_) (fun c18 => ?_)
          · have hf := nc_ifn hf c18
            refine lv_iload_n hx hb dX1_read_141 rfl (lv_at hl 2 rfl) ?_
            refine lv_iload hx hb dX1_read_142 (lv_at hl 5 rfl) ?_
            refine lv_iadd hx hb dX1_read_144 ?_
            refine lv_topi (fun x19 ex19 => ?_)
            have hf := nc_let_at hf ex19
            refine lv_istore_n (lv' := [(3, .int x19), (0, .ref o), (2, .ref (nc_str G (f_X1_formOf mi2 o (mi2 o 3)))), (4, .int x15), (5, .int x8), (7, .int x16)]) hx hb dX1_read_145 rfl hl (by decide) rfl (fun ls hl => ?_)
            obtain ⟨x20, ex20⟩ : ∃ y : Int32, y = x8 + 1 := ⟨_, rfl⟩
            have hf := nc_let_at hf ex20
            refine lv_iinc (v := x20) (lv' := [(5, .int x20), (3, .int x19), (0, .ref o), (2, .ref (nc_str G (f_X1_formOf mi2 o (mi2 o 3)))), (4, .int x15), (7, .int x16)]) hx hb dX1_read_146 hl (k := 4) rfl (by rw [ex20]; rfl) (by decide) rfl (fun ls hl => ?_)
            refine lv_goto (tgt := 39) hx hb dX1_read_149 (by decide) ?_
            exact ihrc10 _ _ _ _ hf _ _ _ hw (lv_sub hl [2, 3, 1, 4, 0] rfl)
          · have hf := nc_ifp hf c18
            refine lv_iconst (v := (-1)) hx hb dX1_read_137 (by decide) ?_
            refine lv_iload_n hx hb dX1_read_138 rfl (lv_at hl 2 rfl) ?_
            refine lv_isub hx hb dX1_read_139 ?_
            exact nc_rpm hret hf rfl hw dX1_read_140
        obtain ⟨k21, ek21, hf⟩ := nc_jn_of hf
        have hk21 : k21 = some res → ∀ (H : Heap) (locs : List Loc) (ls : Array Slot), nc_W G K mi9 H locs → lv_has ls 8 [(0, .ref o), (2, .ref (nc_str G (f_X1_formOf mi2 o (mi2 o 3)))), (3, .int x6), (4, .int x7), (5, .int x8), (6, .int x13)] → W p l e rm_X1_read s m args below meth c H locs 0 0 Q (F0 m 73 ls []) := by
          intro hf H locs ls hw hl
          have hf := (ek21).symm.trans hf
          refine lv_aload_n hx hb dX1_read_73 rfl (lv_at hl 0 rfl) ?_
          refine lv_iload_n hx hb dX1_read_74 rfl (lv_at hl 2 rfl) ?_
          obtain ⟨q22, hq22, hf⟩ := nc_bi hf
          refine nc_callVi cx hw lk_X1_26 (c_X1_signAt l h0 mi9 x6 q22 hq22) (ci := 1) rfl (lLetters_is h0) rfl hl.1 rfl (Nat.le_of_ble_eq_true rfl) ⟨rfl, rfl, Nat.le_of_ble_eq_true rfl, Nat.le_of_ble_eq_true rfl⟩ dX1_read_75 (fun H locs hw => ?_)
          refine lv_iload hx hb dX1_read_78 (lv_at hl 5 rfl) ?_
          refine lv_icmp_ne (tgt := 87) hx hb dX1_read_80 (by decide) (fun c23 => ?_) (fun c23 => ?_)
          · have hf := nc_ifn hf c23
            refine lv_iconst (v := 0) hx hb dX1_read_87 (by decide) ?_
            refine lv_istore (lv' := [(7, .int 0), (0, .ref o), (2, .ref (nc_str G (f_X1_formOf mi2 o (mi2 o 3)))), (3, .int x6), (4, .int x7), (5, .int x8), (6, .int x13)]) hx hb dX1_read_88 hl (by decide) rfl (fun ls hl => ?_)
            refine lv_goto (tgt := 132) hx hb dX1_read_90 (by decide) ?_
            exact hk14 _ _ _ hf _ _ _ hw (lv_sub hl [1, 2, 3, 4, 5, 0] rfl)
          · have hf := nc_ifp hf c23
            refine lv_iconst (v := 1) hx hb dX1_read_83 (by decide) ?_
            refine lv_goto (tgt := 88) hx hb dX1_read_84 (by decide) ?_
            refine lv_istore (lv' := [(7, .int 1), (0, .ref o), (2, .ref (nc_str G (f_X1_formOf mi2 o (mi2 o 3)))), (3, .int x6), (4, .int x7), (5, .int x8), (6, .int x13)]) hx hb dX1_read_88 hl (by decide) rfl (fun ls hl => ?_)
            refine lv_goto (tgt := 132) hx hb dX1_read_90 (by decide) ?_
            exact hk14 _ _ _ hf _ _ _ hw (lv_sub hl [1, 2, 3, 4, 5, 0] rfl)
        refine lv_icmp_eq (tgt := 73) hx hb dX1_read_63 (by decide) (fun c24 => ?_) (fun c24 => ?_)
        · have hf := nc_ifp hf c24
          exact hk21 hf _ _ _ hw (lv_sub hl [2, 3, 4, 5, 6, 1] rfl)
        · have hf := nc_ifn hf c24
          refine lv_iload hx hb dX1_read_66 (lv_at hl 1 rfl) ?_
          refine lv_bipush (v := 59) hx hb dX1_read_68 (by decide) ?_
          refine lv_icmp_ne (tgt := 93) hx hb dX1_read_70 (by decide) (fun c25 => ?_) (fun c25 => ?_)
          · have hf := nc_ifn hf c25
            refine lv_iload hx hb dX1_read_93 (lv_at hl 5 rfl) ?_
            refine lv_aload_n hx hb dX1_read_95 rfl (lv_at hl 2 rfl) ?_
            refine gr_X1_15 cx hw (lLetters_is h0) (lLetters_number h0) (lLetters_number_L h0) dX1_read_96 ?_
            refine nc_alen (v := 7) cx hw (lLetters_number_L h0) rfl dX1_read_99 ?_
            refine lv_icmp_ge (tgt := 132) hx hb dX1_read_100 (by decide) (fun c26 => ?_) (fun c26 => ?_)
            · have hf := nc_ifp hf c26
              exact hk14 _ _ _ hf _ _ _ hw (lv_sub hl [2, 3, 4, 5, 6, 0] rfl)
            · have hf := nc_ifn hf c26
              refine lv_aload_n hx hb dX1_read_103 rfl (lv_at hl 2 rfl) ?_
              refine lv_iload_n hx hb dX1_read_104 rfl (lv_at hl 4 rfl) ?_
              refine lv_iload hx hb dX1_read_105 (lv_at hl 1 rfl) ?_
              refine lv_bipush (v := 48) hx hb dX1_read_107 (by decide) ?_
              refine lv_isub hx hb dX1_read_109 ?_
              obtain ⟨q27, hq27, hf⟩ := nc_bi hf
              refine nc_callVi cx hw lk_X1_49 (c_X1_digitsAt l h0 mi9 x6 (x13 - 48) q27 hq27) (ci := 1) rfl (lLetters_is h0) rfl hl.1 rfl (Nat.le_of_ble_eq_true rfl) ⟨rfl, rfl, Nat.le_of_ble_eq_true rfl, Nat.le_of_ble_eq_true rfl⟩ dX1_read_110 (fun H locs hw => ?_)
              refine lv_istore (lv' := [(7, .int q27), (6, .int x13), (0, .ref o), (2, .ref (nc_str G (f_X1_formOf mi2 o (mi2 o 3)))), (3, .int x6), (4, .int x7), (5, .int x8)]) hx hb dX1_read_113 hl (by decide) rfl (fun ls hl => ?_)
              refine lv_aload_n hx hb dX1_read_115 rfl (lv_at hl 2 rfl) ?_
              refine gr_X1_15 cx hw (lLetters_is h0) (lLetters_number h0) (lLetters_number_L h0) dX1_read_116 ?_
              refine lv_iload hx hb dX1_read_119 (lv_at hl 5 rfl) ?_
              refine lv_aload_n hx hb dX1_read_121 rfl (lv_at hl 2 rfl) ?_
              refine lv_iload_n hx hb dX1_read_122 rfl (lv_at hl 4 rfl) ?_
              refine lv_iload hx hb dX1_read_123 (lv_at hl 0 rfl) ?_
              obtain ⟨q28, hq28, hf⟩ := nc_bi hf
              refine nc_callVi cx hw lk_X1_53 (c_X1_valueOf l h0 mi9 x6 q27 q28 hq28) (ci := 1) rfl (lLetters_is h0) rfl hl.1 rfl (Nat.le_of_ble_eq_true rfl) ⟨rfl, rfl, Nat.le_of_ble_eq_true rfl, Nat.le_of_ble_eq_true rfl⟩ dX1_read_125 (fun H locs hw => ?_)
              obtain ⟨j29, ej29, ij29, lj29, hf⟩ := nc_ix hf
              refine nc_ist cx hw (lLetters_number_L h0) ij29 ej29 dX1_read_128 (fun mi30 H locs emi30 hw => ?_)
              have hf := nc_let_at hf emi30
              obtain ⟨x31, ex31⟩ : ∃ y : Int32, y = x7 + 1 := ⟨_, rfl⟩
              have hf := nc_let_at hf ex31
              refine lv_iinc (v := x31) (lv' := [(4, .int x31), (7, .int q27), (6, .int x13), (0, .ref o), (2, .ref (nc_str G (f_X1_formOf mi2 o (mi2 o 3)))), (3, .int x6), (5, .int x8)]) hx hb dX1_read_129 hl (k := 5) rfl (by rw [ex31]; rfl) (by decide) rfl (fun ls hl => ?_)
              exact hk14 _ _ _ hf _ _ _ hw (lv_sub hl [3, 4, 5, 0, 6, 1] rfl)
          · have hf := nc_ifp hf c25
            exact hk21 hf _ _ _ hw (lv_sub hl [2, 3, 4, 5, 6, 1] rfl)
  · have hf := nc_ifn hf c4
    refine lv_iconst (v := (-1)) hx hb dX1_read_25 (by decide) ?_
    refine lv_iload_n hx hb dX1_read_26 rfl (lv_at hl 2 rfl) ?_
    refine lv_isub hx hb dX1_read_27 ?_
    exact nc_rpm hret hf rfl hw dX1_read_28
abbrev rm_X1_firstBadSign : Room := { frames := 13, cells := 0, slots := 0, locals := 427 }
set_option maxRecDepth 100000 in
set_option maxHeartbeats 4000000 in
theorem c_X1_firstBadSign (l : Launch) {G : nc_G} {K : nc_K} {o : Nat} (h0 : nc_LLetters G K o) (mi : nc_Mem)  (res : nc_Mem × Int32) (hf : f_X1_firstBadSign mi o = some res) : nc_M l yX1_firstBadSign cX1_firstBadSign 4 (some .int) rm_X1_firstBadSign 0 0 G K K [.ref o] mi res.1 (some (.int res.2)) := by
  refine nc_meet_i (by decide) (Nat.le_of_ble_eq_true rfl) ?_
  intro p e s m args below meth c Q H locs ls cx hret hw hl
  have cx : nc_C p s m args c cX1_firstBadSign 4 RX1 G := cx
  have hl : lv_has ls 4 [(0, .ref o)] := hl
  have hx := cx.1
  have hb := cx.2.1
  unfold f_X1_firstBadSign at hf
  refine lv_iconst (v := 0) hx hb dX1_firstBadSign_0 (by decide) ?_
  refine lv_istore_n (lv' := [(1, .int 0), (0, .ref o)]) hx hb dX1_firstBadSign_1 rfl hl (by decide) rfl (fun ls hl => ?_)
  refine lv_iconst (v := 0) hx hb dX1_firstBadSign_2 (by decide) ?_
  refine lv_istore_n (lv' := [(2, .int 0), (1, .int 0), (0, .ref o)]) hx hb dX1_firstBadSign_3 rfl hl (by decide) rfl (fun ls hl => ?_)
  refine nc_loop_w (P := fun κ : Int32 → Int32 → nc_Mem → Option (nc_Mem × Int32) => ∀ (x1 : Int32) (x2 : Int32) (mi3 : nc_Mem), κ x1 x2 mi3 = some res → ∀ (H : Heap) (locs : List Loc) (ls : Array Slot), nc_W G K mi3 H locs → lv_has ls 4 [(0, .ref o), (1, .int x1), (2, .int x2)] → W p l e rm_X1_firstBadSign s m args below meth c H locs 0 0 Q (F0 m 4 ls [])) ?_ ?_ 200 _ _ _ hf _ _ _ hw (lv_sub hl [2, 1, 0] rfl)
  · intro x1 x2 mi3 hf; exact absurd hf (by intro q; cases q)
  · intro rc4 ihrc4 x1 x2 mi3 hf H locs ls hw hl
    unfold B_X1_firstBadSign_4 at hf
    refine lv_iload_n hx hb dX1_firstBadSign_4 rfl (lv_at hl 2 rfl) ?_
    refine lv_bipush (v := 64) hx hb dX1_firstBadSign_5 (by decide) ?_
    refine lv_icmp_ge (tgt := 42) hx hb dX1_firstBadSign_7 (by decide) (fun c5 => ?_) (fun c5 => ?_)
    · have hf := nc_ifp hf c5
      refine lv_iload_n hx hb dX1_firstBadSign_42 rfl (lv_at hl 1 rfl) ?_
      exact nc_rpm hret hf rfl hw dX1_firstBadSign_43
    · have hf := nc_ifn hf c5
      refine lv_aload_n hx hb dX1_firstBadSign_10 rfl (lv_at hl 0 rfl) ?_
      refine lv_iload_n hx hb dX1_firstBadSign_11 rfl (lv_at hl 1 rfl) ?_
      obtain ⟨q6, hq6, hf⟩ := nc_bi hf
      refine nc_callVi cx hw lk_X1_22 (c_X1_read l h0 mi3 x1 q6 hq6) (ci := 1) rfl (lLetters_is h0) rfl hl.1 rfl (Nat.le_of_ble_eq_true rfl) ⟨rfl, rfl, Nat.le_of_ble_eq_true rfl, Nat.le_of_ble_eq_true rfl⟩ dX1_firstBadSign_12 (fun H locs hw => ?_)
      refine lv_istore_n (lv' := [(3, .int q6.2), (0, .ref o), (1, .int x1), (2, .int x2)]) hx hb dX1_firstBadSign_15 rfl hl (by decide) rfl (fun ls hl => ?_)
      refine lv_iload_n hx hb dX1_firstBadSign_16 rfl (lv_at hl 0 rfl) ?_
      refine lv_if_ge (tgt := 24) hx hb dX1_firstBadSign_17 (by decide) (fun c7 => ?_) (fun c7 => ?_)
      · have hf := nc_ifp hf c7
        refine lv_iload_n hx hb dX1_firstBadSign_24 rfl (lv_at hl 0 rfl) ?_
        refine lv_aload_n hx hb dX1_firstBadSign_25 rfl (lv_at hl 1 rfl) ?_
        refine gi_X1_18 cx hw (lLetters_is h0) dX1_firstBadSign_26 ?_
        refine lv_icmp_lt (tgt := 34) hx hb dX1_firstBadSign_29 (by decide) (fun c8 => ?_) (fun c8 => ?_)
        · have hf := nc_ifp hf c8
          refine lv_iload_n hx hb dX1_firstBadSign_34 rfl (lv_at hl 0 rfl) ?_
          refine lv_istore_n (lv' := [(1, .int q6.2), (3, .int q6.2), (0, .ref o), (2, .int x2)]) hx hb dX1_firstBadSign_35 rfl hl (by decide) rfl (fun ls hl => ?_)
          obtain ⟨x9, ex9⟩ : ∃ y : Int32, y = x2 + 1 := ⟨_, rfl⟩
          have hf := nc_let_at hf ex9
          refine lv_iinc (v := x9) (lv' := [(2, .int x9), (1, .int q6.2), (3, .int q6.2), (0, .ref o)]) hx hb dX1_firstBadSign_36 hl (k := 3) rfl (by rw [ex9]; rfl) (by decide) rfl (fun ls hl => ?_)
          refine lv_goto (tgt := 4) hx hb dX1_firstBadSign_39 (by decide) ?_
          exact ihrc4 _ _ _ hf _ _ _ hw (lv_sub hl [3, 1, 0] rfl)
        · have hf := nc_ifn hf c8
          refine lv_iconst (v := (-1)) hx hb dX1_firstBadSign_32 (by decide) ?_
          exact nc_rpm hret hf rfl hw dX1_firstBadSign_33
      · have hf := nc_ifn hf c7
        refine lv_iconst (v := (-1)) hx hb dX1_firstBadSign_20 (by decide) ?_
        refine lv_iload_n hx hb dX1_firstBadSign_21 rfl (lv_at hl 0 rfl) ?_
        refine lv_isub hx hb dX1_firstBadSign_22 ?_
        exact nc_rpm hret hf rfl hw dX1_firstBadSign_23
abbrev rm_X3_becomeLike : Room := { frames := 0, cells := 0, slots := 0, locals := 0 }
set_option maxRecDepth 100000 in
set_option maxHeartbeats 4000000 in
theorem c_X3_becomeLike (l : Launch) {G : nc_G} {K : nc_K} {o r1 : Nat} (h0 : nc_LPerson G K o) (h1 : nc_LPerson G K r1) (mi : nc_Mem)  (res : nc_Mem) (hf : f_X3_becomeLike mi o r1 = res) : nc_M l yX3_becomeLike cX3_becomeLike 2 none rm_X3_becomeLike 0 0 G K K [.ref o, .ref r1] mi res none := by
  refine nc_meet_v (by decide) (Nat.le_of_ble_eq_true rfl) ?_
  intro p e s m args below meth c Q H locs ls cx hret hw hl
  have cx : nc_C p s m args c cX3_becomeLike 2 RX3 G := cx
  have hl : lv_has ls 2 [(0, .ref o), (1, .ref r1)] := hl
  have hx := cx.1
  have hb := cx.2.1
  unfold f_X3_becomeLike at hf
  refine lv_aload_n hx hb dX3_becomeLike_0 rfl (lv_at hl 0 rfl) ?_
  refine lv_aload_n hx hb dX3_becomeLike_1 rfl (lv_at hl 1 rfl) ?_
  refine gi_X3_7 cx hw (lPerson_is h1) dX3_becomeLike_2 ?_
  refine pi_X3_7 cx hw (lPerson_is h0) dX3_becomeLike_5 (fun mi1 H locs emi1 hw => ?_)
  have hf := nc_let_at hf emi1
  refine lv_aload_n hx hb dX3_becomeLike_8 rfl (lv_at hl 0 rfl) ?_
  refine lv_aload_n hx hb dX3_becomeLike_9 rfl (lv_at hl 1 rfl) ?_
  refine gi_X3_13 cx hw (lPerson_is h1) dX3_becomeLike_10 ?_
  refine pi_X3_13 cx hw (lPerson_is h0) dX3_becomeLike_13 (fun mi2 H locs emi2 hw => ?_)
  have hf := nc_let_at hf emi2
  refine lv_aload_n hx hb dX3_becomeLike_16 rfl (lv_at hl 0 rfl) ?_
  refine lv_aload_n hx hb dX3_becomeLike_17 rfl (lv_at hl 1 rfl) ?_
  refine gi_X3_16 cx hw (lPerson_is h1) dX3_becomeLike_18 ?_
  refine pi_X3_16 cx hw (lPerson_is h0) dX3_becomeLike_21 (fun mi3 H locs emi3 hw => ?_)
  have hf := nc_let_at hf emi3
  refine lv_aload_n hx hb dX3_becomeLike_24 rfl (lv_at hl 0 rfl) ?_
  refine lv_aload_n hx hb dX3_becomeLike_25 rfl (lv_at hl 1 rfl) ?_
  refine gi_X3_19 cx hw (lPerson_is h1) dX3_becomeLike_26 ?_
  refine pi_X3_19 cx hw (lPerson_is h0) dX3_becomeLike_29 (fun mi4 H locs emi4 hw => ?_)
  have hf := nc_let_at hf emi4
  refine lv_aload_n hx hb dX3_becomeLike_32 rfl (lv_at hl 0 rfl) ?_
  refine lv_aload_n hx hb dX3_becomeLike_33 rfl (lv_at hl 1 rfl) ?_
  refine gi_X3_22 cx hw (lPerson_is h1) dX3_becomeLike_34 ?_
  refine pi_X3_22 cx hw (lPerson_is h0) dX3_becomeLike_37 (fun mi5 H locs emi5 hw => ?_)
  have hf := nc_let_at hf emi5
  refine lv_aload_n hx hb dX3_becomeLike_40 rfl (lv_at hl 0 rfl) ?_
  refine lv_aload_n hx hb dX3_becomeLike_41 rfl (lv_at hl 1 rfl) ?_
  refine gi_X3_25 cx hw (lPerson_is h1) dX3_becomeLike_42 ?_
  refine pi_X3_25 cx hw (lPerson_is h0) dX3_becomeLike_45 (fun mi6 H locs emi6 hw => ?_)
  have hf := nc_let_at hf emi6
  refine lv_aload_n hx hb dX3_becomeLike_48 rfl (lv_at hl 0 rfl) ?_
  refine lv_aload_n hx hb dX3_becomeLike_49 rfl (lv_at hl 1 rfl) ?_
  refine gi_X3_28 cx hw (lPerson_is h1) dX3_becomeLike_50 ?_
  refine pi_X3_28 cx hw (lPerson_is h0) dX3_becomeLike_53 (fun mi7 H locs emi7 hw => ?_)
  have hf := nc_let_at hf emi7
  exact nc_vtm hret hf hw dX3_becomeLike_56
abbrev rm_X4_becomeLike : Room := { frames := 0, cells := 0, slots := 0, locals := 0 }
set_option maxRecDepth 100000 in
set_option maxHeartbeats 4000000 in
theorem c_X4_becomeLike (l : Launch) {G : nc_G} {K : nc_K} {o r1 : Nat} (h0 : nc_LThing G K o) (h1 : nc_LThing G K r1) (mi : nc_Mem)  (res : nc_Mem) (hf : f_X4_becomeLike mi o r1 = res) : nc_M l yX4_becomeLike cX4_becomeLike 2 none rm_X4_becomeLike 0 0 G K K [.ref o, .ref r1] mi res none := by
  refine nc_meet_v (by decide) (Nat.le_of_ble_eq_true rfl) ?_
  intro p e s m args below meth c Q H locs ls cx hret hw hl
  have cx : nc_C p s m args c cX4_becomeLike 2 RX4 G := cx
  have hl : lv_has ls 2 [(0, .ref o), (1, .ref r1)] := hl
  have hx := cx.1
  have hb := cx.2.1
  unfold f_X4_becomeLike at hf
  refine lv_aload_n hx hb dX4_becomeLike_0 rfl (lv_at hl 0 rfl) ?_
  refine lv_aload_n hx hb dX4_becomeLike_1 rfl (lv_at hl 1 rfl) ?_
  refine gi_X4_7 cx hw (lThing_is h1) dX4_becomeLike_2 ?_
  refine pi_X4_7 cx hw (lThing_is h0) dX4_becomeLike_5 (fun mi1 H locs emi1 hw => ?_)
  have hf := nc_let_at hf emi1
  refine lv_aload_n hx hb dX4_becomeLike_8 rfl (lv_at hl 0 rfl) ?_
  refine lv_aload_n hx hb dX4_becomeLike_9 rfl (lv_at hl 1 rfl) ?_
  refine gi_X4_13 cx hw (lThing_is h1) dX4_becomeLike_10 ?_
  refine pi_X4_13 cx hw (lThing_is h0) dX4_becomeLike_13 (fun mi2 H locs emi2 hw => ?_)
  have hf := nc_let_at hf emi2
  refine lv_aload_n hx hb dX4_becomeLike_16 rfl (lv_at hl 0 rfl) ?_
  refine lv_aload_n hx hb dX4_becomeLike_17 rfl (lv_at hl 1 rfl) ?_
  refine gi_X4_16 cx hw (lThing_is h1) dX4_becomeLike_18 ?_
  refine pi_X4_16 cx hw (lThing_is h0) dX4_becomeLike_21 (fun mi3 H locs emi3 hw => ?_)
  have hf := nc_let_at hf emi3
  refine lv_aload_n hx hb dX4_becomeLike_24 rfl (lv_at hl 0 rfl) ?_
  refine lv_aload_n hx hb dX4_becomeLike_25 rfl (lv_at hl 1 rfl) ?_
  refine gi_X4_19 cx hw (lThing_is h1) dX4_becomeLike_26 ?_
  refine pi_X4_19 cx hw (lThing_is h0) dX4_becomeLike_29 (fun mi4 H locs emi4 hw => ?_)
  have hf := nc_let_at hf emi4
  refine lv_aload_n hx hb dX4_becomeLike_32 rfl (lv_at hl 0 rfl) ?_
  refine lv_aload_n hx hb dX4_becomeLike_33 rfl (lv_at hl 1 rfl) ?_
  refine gi_X4_22 cx hw (lThing_is h1) dX4_becomeLike_34 ?_
  refine pi_X4_22 cx hw (lThing_is h0) dX4_becomeLike_37 (fun mi5 H locs emi5 hw => ?_)
  have hf := nc_let_at hf emi5
  refine lv_aload_n hx hb dX4_becomeLike_40 rfl (lv_at hl 0 rfl) ?_
  refine lv_aload_n hx hb dX4_becomeLike_41 rfl (lv_at hl 1 rfl) ?_
  refine gi_X4_25 cx hw (lThing_is h1) dX4_becomeLike_42 ?_
  refine pi_X4_25 cx hw (lThing_is h0) dX4_becomeLike_45 (fun mi6 H locs emi6 hw => ?_)
  have hf := nc_let_at hf emi6
  refine lv_aload_n hx hb dX4_becomeLike_48 rfl (lv_at hl 0 rfl) ?_
  refine lv_aload_n hx hb dX4_becomeLike_49 rfl (lv_at hl 1 rfl) ?_
  refine gi_X4_28 cx hw (lThing_is h1) dX4_becomeLike_50 ?_
  refine pi_X4_28 cx hw (lThing_is h0) dX4_becomeLike_53 (fun mi7 H locs emi7 hw => ?_)
  have hf := nc_let_at hf emi7
  refine lv_aload_n hx hb dX4_becomeLike_56 rfl (lv_at hl 0 rfl) ?_
  refine lv_aload_n hx hb dX4_becomeLike_57 rfl (lv_at hl 1 rfl) ?_
  refine gi_X4_31 cx hw (lThing_is h1) dX4_becomeLike_58 ?_
  refine pi_X4_31 cx hw (lThing_is h0) dX4_becomeLike_61 (fun mi8 H locs emi8 hw => ?_)
  have hf := nc_let_at hf emi8
  refine lv_aload_n hx hb dX4_becomeLike_64 rfl (lv_at hl 0 rfl) ?_
  refine lv_aload_n hx hb dX4_becomeLike_65 rfl (lv_at hl 1 rfl) ?_
  refine gi_X4_34 cx hw (lThing_is h1) dX4_becomeLike_66 ?_
  refine pi_X4_34 cx hw (lThing_is h0) dX4_becomeLike_69 (fun mi9 H locs emi9 hw => ?_)
  have hf := nc_let_at hf emi9
  refine lv_aload_n hx hb dX4_becomeLike_72 rfl (lv_at hl 0 rfl) ?_
  refine lv_aload_n hx hb dX4_becomeLike_73 rfl (lv_at hl 1 rfl) ?_
  refine gi_X4_37 cx hw (lThing_is h1) dX4_becomeLike_74 ?_
  refine pi_X4_37 cx hw (lThing_is h0) dX4_becomeLike_77 (fun mi10 H locs emi10 hw => ?_)
  have hf := nc_let_at hf emi10
  exact nc_vtm hret hf hw dX4_becomeLike_80
abbrev rm_X5_becomeLike : Room := { frames := 1, cells := 0, slots := 0, locals := 60 }
set_option maxRecDepth 100000 in
set_option maxHeartbeats 4000000 in
theorem c_X5_becomeLike (l : Launch) {G : nc_G} {K : nc_K} {o r1 : Nat} (h0 : nc_LTown G K o) (h1 : nc_LTown G K r1) (mi : nc_Mem)  (res : nc_Mem) (hf : f_X5_becomeLike mi o r1 = some res) : nc_M l yX5_becomeLike cX5_becomeLike 3 none rm_X5_becomeLike 0 0 G K K [.ref o, .ref r1] mi res none := by
  refine nc_meet_v (by decide) (Nat.le_of_ble_eq_true rfl) ?_
  intro p e s m args below meth c Q H locs ls cx hret hw hl
  have cx : nc_C p s m args c cX5_becomeLike 3 RX5 G := cx
  have hl : lv_has ls 3 [(0, .ref o), (1, .ref r1)] := hl
  have hx := cx.1
  have hb := cx.2.1
  unfold f_X5_becomeLike at hf
  refine lv_iconst (v := 0) hx hb dX5_becomeLike_0 (by decide) ?_
  refine lv_istore_n (lv' := [(2, .int 0), (0, .ref o), (1, .ref r1)]) hx hb dX5_becomeLike_1 rfl hl (by decide) rfl (fun ls hl => ?_)
  refine nc_loop_w (P := fun κ : Int32 → nc_Mem → Option (nc_Mem) => ∀ (x1 : Int32) (mi2 : nc_Mem), κ x1 mi2 = some res → ∀ (H : Heap) (locs : List Loc) (ls : Array Slot), nc_W G K mi2 H locs → lv_has ls 3 [(0, .ref o), (1, .ref r1), (2, .int x1)] → W p l e rm_X5_becomeLike s m args below meth c H locs 0 0 Q (F0 m 2 ls [])) ?_ ?_ 200 _ _ hf _ _ _ hw (lv_sub hl [1, 2, 0] rfl)
  · intro x1 mi2 hf; exact absurd hf (by intro q; cases q)
  · intro rc3 ihrc3 x1 mi2 hf H locs ls hw hl
    unfold B_X5_becomeLike_2 at hf
    refine lv_iload_n hx hb dX5_becomeLike_2 rfl (lv_at hl 2 rfl) ?_
    refine lv_bipush (v := 6) hx hb dX5_becomeLike_3 (by decide) ?_
    refine lv_icmp_ge (tgt := 29) hx hb dX5_becomeLike_5 (by decide) (fun c4 => ?_) (fun c4 => ?_)
    · have hf := nc_ifp hf c4
      refine lv_iconst (v := 0) hx hb dX5_becomeLike_29 (by decide) ?_
      refine lv_istore_n (lv' := [(2, .int 0), (0, .ref o), (1, .ref r1)]) hx hb dX5_becomeLike_30 rfl hl (by decide) rfl (fun ls hl => ?_)
      obtain ⟨k5, ek5, hf⟩ := nc_jn_of hf
      have hk5 : ∀ (mi6 : nc_Mem), k5 mi6 = some res → ∀ (H : Heap) (locs : List Loc) (ls : Array Slot), nc_W G K mi6 H locs → lv_has ls 3 [(0, .ref o), (1, .ref r1)] → W p l e rm_X5_becomeLike s m args below meth c H locs 0 0 Q (F0 m 58 ls []) := by
        intro mi6 hf H locs ls hw hl
        have hf := ((congrFun ek5 mi6)).symm.trans hf
        refine lv_aload_n hx hb dX5_becomeLike_58 rfl (lv_at hl 1 rfl) ?_
        refine gr_X5_23 cx hw (lTown_is h1) (lTown_way h1) (lTown_way_L h1) dX5_becomeLike_59 ?_
        refine lv_iconst (v := 0) hx hb dX5_becomeLike_62 (by decide) ?_
        refine lv_aload_n hx hb dX5_becomeLike_63 rfl (lv_at hl 0 rfl) ?_
        refine gr_X5_23 cx hw (lTown_is h0) (lTown_way h0) (lTown_way_L h0) dX5_becomeLike_64 ?_
        refine lv_iconst (v := 0) hx hb dX5_becomeLike_67 (by decide) ?_
        refine lv_aload_n hx hb dX5_becomeLike_68 rfl (lv_at hl 0 rfl) ?_
        refine gr_X5_23 cx hw (lTown_is h0) (lTown_way h0) (lTown_way_L h0) dX5_becomeLike_69 ?_
        refine nc_alen (v := 49) cx hw (lTown_way_L h0) rfl dX5_becomeLike_72 ?_
        refine nc_acp cx hw hl.1 (nc_w 478 (by decide +kernel) rfl) (lTown_way_L h1) (lTown_way_L h0) (by decide) (by decide) ⟨Nat.le_of_ble_eq_true rfl, Nat.le_of_ble_eq_true (by decide +kernel)⟩ dX5_becomeLike_73 (fun mi7 H locs emi7 hw => ?_)
        have hf := nc_let_at hf emi7
        refine lv_aload_n hx hb dX5_becomeLike_76 rfl (lv_at hl 1 rfl) ?_
        refine gr_X5_27 cx hw (lTown_is h1) (lTown_least h1) (lTown_least_L h1) dX5_becomeLike_77 ?_
        refine lv_iconst (v := 0) hx hb dX5_becomeLike_80 (by decide) ?_
        refine lv_aload_n hx hb dX5_becomeLike_81 rfl (lv_at hl 0 rfl) ?_
        refine gr_X5_27 cx hw (lTown_is h0) (lTown_least h0) (lTown_least_L h0) dX5_becomeLike_82 ?_
        refine lv_iconst (v := 0) hx hb dX5_becomeLike_85 (by decide) ?_
        refine lv_aload_n hx hb dX5_becomeLike_86 rfl (lv_at hl 0 rfl) ?_
        refine gr_X5_27 cx hw (lTown_is h0) (lTown_least h0) (lTown_least_L h0) dX5_becomeLike_87 ?_
        refine nc_alen (v := 49) cx hw (lTown_least_L h0) rfl dX5_becomeLike_90 ?_
        refine nc_acp cx hw hl.1 (nc_w 478 (by decide +kernel) rfl) (lTown_least_L h1) (lTown_least_L h0) (by decide) (by decide) ⟨Nat.le_of_ble_eq_true rfl, Nat.le_of_ble_eq_true (by decide +kernel)⟩ dX5_becomeLike_91 (fun mi8 H locs emi8 hw => ?_)
        have hf := nc_let_at hf emi8
        refine lv_aload_n hx hb dX5_becomeLike_94 rfl (lv_at hl 0 rfl) ?_
        refine lv_aload_n hx hb dX5_becomeLike_95 rfl (lv_at hl 1 rfl) ?_
        refine gi_X5_30 cx hw (lTown_is h1) dX5_becomeLike_96 ?_
        refine pi_X5_30 cx hw (lTown_is h0) dX5_becomeLike_99 (fun mi9 H locs emi9 hw => ?_)
        have hf := nc_let_at hf emi9
        refine lv_aload_n hx hb dX5_becomeLike_102 rfl (lv_at hl 0 rfl) ?_
        refine lv_aload_n hx hb dX5_becomeLike_103 rfl (lv_at hl 1 rfl) ?_
        refine gi_X5_52 cx hw (lTown_is h1) dX5_becomeLike_104 ?_
        refine pi_X5_52 cx hw (lTown_is h0) dX5_becomeLike_107 (fun mi10 H locs emi10 hw => ?_)
        have hf := nc_let_at hf emi10
        refine lv_aload_n hx hb dX5_becomeLike_110 rfl (lv_at hl 0 rfl) ?_
        refine lv_aload_n hx hb dX5_becomeLike_111 rfl (lv_at hl 1 rfl) ?_
        refine gi_X5_55 cx hw (lTown_is h1) dX5_becomeLike_112 ?_
        refine pi_X5_55 cx hw (lTown_is h0) dX5_becomeLike_115 (fun mi11 H locs emi11 hw => ?_)
        have hf := nc_let_at hf emi11
        refine lv_aload_n hx hb dX5_becomeLike_118 rfl (lv_at hl 0 rfl) ?_
        refine lv_aload_n hx hb dX5_becomeLike_119 rfl (lv_at hl 1 rfl) ?_
        refine gi_X5_58 cx hw (lTown_is h1) dX5_becomeLike_120 ?_
        refine pi_X5_58 cx hw (lTown_is h0) dX5_becomeLike_123 (fun mi12 H locs emi12 hw => ?_)
        have hf := nc_let_at hf emi12
        exact nc_vpm hret hf hw dX5_becomeLike_126
      refine nc_loop_w (P := fun κ : Int32 → nc_Mem → Option (nc_Mem) => ∀ (x13 : Int32) (mi14 : nc_Mem), κ x13 mi14 = some res → ∀ (H : Heap) (locs : List Loc) (ls : Array Slot), nc_W G K mi14 H locs → lv_has ls 3 [(0, .ref o), (1, .ref r1), (2, .int x13)] → W p l e rm_X5_becomeLike s m args below meth c H locs 0 0 Q (F0 m 31 ls [])) ?_ ?_ 200 _ _ hf _ _ _ hw (lv_sub hl [1, 2, 0] rfl)
      · intro x13 mi14 hf; exact absurd hf (by intro q; cases q)
      · intro rc15 ihrc15 x13 mi14 hf H locs ls hw hl
        unfold B_X5_becomeLike_31 at hf
        refine lv_iload_n hx hb dX5_becomeLike_31 rfl (lv_at hl 2 rfl) ?_
        refine lv_bipush (v := 6) hx hb dX5_becomeLike_32 (by decide) ?_
        refine lv_icmp_ge (tgt := 58) hx hb dX5_becomeLike_34 (by decide) (fun c16 => ?_) (fun c16 => ?_)
        · have hf := nc_ifp hf c16
          exact hk5 _ hf _ _ _ hw (lv_sub hl [0, 1] rfl)
        · have hf := nc_ifn hf c16
          refine lv_aload_n hx hb dX5_becomeLike_37 rfl (lv_at hl 0 rfl) ?_
          refine gr_X5_19 cx hw (lTown_is h0) (lTown_goods h0) (lTown_goods_L h0) dX5_becomeLike_38 ?_
          refine lv_iload_n hx hb dX5_becomeLike_41 rfl (lv_at hl 2 rfl) ?_
          obtain ⟨j17, ej17, ij17, lj17, hf⟩ := nc_ix hf
          refine nc_ald cx hw (by decide) (lTown_goods_L h0) ij17 ej17 ((lTown_goods_E h0 j17 lj17)).1 (lThing_is ((lTown_goods_E h0 j17 lj17)).2) dX5_becomeLike_42 ?_
          refine lv_aload_n hx hb dX5_becomeLike_43 rfl (lv_at hl 1 rfl) ?_
          refine gr_X5_19 cx hw (lTown_is h1) (lTown_goods h1) (lTown_goods_L h1) dX5_becomeLike_44 ?_
          refine lv_iload_n hx hb dX5_becomeLike_47 rfl (lv_at hl 2 rfl) ?_
          refine nc_ald cx hw (by decide) (lTown_goods_L h1) ij17 ej17 ((lTown_goods_E h1 j17 lj17)).1 (lThing_is ((lTown_goods_E h1 j17 lj17)).2) dX5_becomeLike_48 ?_
          obtain ⟨q18, hq18, hf⟩ := nc_jn_of hf
          refine nc_callVv cx hw lk_X5_43 (c_X4_becomeLike l ((lTown_goods_E h0 j17 lj17)).2 ((lTown_goods_E h1 j17 lj17)).2 mi14  q18 hq18.symm) (ci := 4) rfl (lThing_is ((lTown_goods_E h0 j17 lj17)).2) rfl hl.1 rfl (Nat.le_of_ble_eq_true rfl) ⟨rfl, rfl, Nat.le_of_ble_eq_true rfl, Nat.le_of_ble_eq_true rfl⟩ dX5_becomeLike_49 (fun H locs hw => ?_)
          obtain ⟨x19, ex19⟩ : ∃ y : Int32, y = x13 + 1 := ⟨_, rfl⟩
          have hf := nc_let_at hf ex19
          refine lv_iinc (v := x19) (lv' := [(2, .int x19), (0, .ref o), (1, .ref r1)]) hx hb dX5_becomeLike_52 hl (k := 2) rfl (by rw [ex19]; rfl) (by decide) rfl (fun ls hl => ?_)
          refine lv_goto (tgt := 31) hx hb dX5_becomeLike_55 (by decide) ?_
          exact ihrc15 _ _ hf _ _ _ hw (lv_sub hl [1, 2, 0] rfl)
    · have hf := nc_ifn hf c4
      refine lv_aload_n hx hb dX5_becomeLike_8 rfl (lv_at hl 0 rfl) ?_
      refine gr_X5_11 cx hw (lTown_is h0) (lTown_people h0) (lTown_people_L h0) dX5_becomeLike_9 ?_
      refine lv_iload_n hx hb dX5_becomeLike_12 rfl (lv_at hl 2 rfl) ?_
      obtain ⟨j20, ej20, ij20, lj20, hf⟩ := nc_ix hf
      refine nc_ald cx hw (by decide) (lTown_people_L h0) ij20 ej20 ((lTown_people_E h0 j20 lj20)).1 (lPerson_is ((lTown_people_E h0 j20 lj20)).2) dX5_becomeLike_13 ?_
      refine lv_aload_n hx hb dX5_becomeLike_14 rfl (lv_at hl 1 rfl) ?_
      refine gr_X5_11 cx hw (lTown_is h1) (lTown_people h1) (lTown_people_L h1) dX5_becomeLike_15 ?_
      refine lv_iload_n hx hb dX5_becomeLike_18 rfl (lv_at hl 2 rfl) ?_
      refine nc_ald cx hw (by decide) (lTown_people_L h1) ij20 ej20 ((lTown_people_E h1 j20 lj20)).1 (lPerson_is ((lTown_people_E h1 j20 lj20)).2) dX5_becomeLike_19 ?_
      obtain ⟨q21, hq21, hf⟩ := nc_jn_of hf
      refine nc_callVv cx hw lk_X5_39 (c_X3_becomeLike l ((lTown_people_E h0 j20 lj20)).2 ((lTown_people_E h1 j20 lj20)).2 mi2  q21 hq21.symm) (ci := 3) rfl (lPerson_is ((lTown_people_E h0 j20 lj20)).2) rfl hl.1 rfl (Nat.le_of_ble_eq_true rfl) ⟨rfl, rfl, Nat.le_of_ble_eq_true rfl, Nat.le_of_ble_eq_true rfl⟩ dX5_becomeLike_20 (fun H locs hw => ?_)
      obtain ⟨x22, ex22⟩ : ∃ y : Int32, y = x1 + 1 := ⟨_, rfl⟩
      have hf := nc_let_at hf ex22
      refine lv_iinc (v := x22) (lv' := [(2, .int x22), (0, .ref o), (1, .ref r1)]) hx hb dX5_becomeLike_23 hl (k := 2) rfl (by rw [ex22]; rfl) (by decide) rfl (fun ls hl => ?_)
      refine lv_goto (tgt := 2) hx hb dX5_becomeLike_26 (by decide) ?_
      exact ihrc3 _ _ hf _ _ _ hw (lv_sub hl [1, 2, 0] rfl)
abbrev rm_X5_highestPlace : Room := { frames := 1, cells := 0, slots := 0, locals := 24 }
set_option maxRecDepth 100000 in
set_option maxHeartbeats 4000000 in
theorem c_X5_highestPlace (l : Launch) {G : nc_G} {K : nc_K} {o : Nat} (h0 : nc_LTown G K o) (mi : nc_Mem)  (res : Int32) (hf : f_X5_highestPlace mi o = some res) : nc_M l yX5_highestPlace cX5_highestPlace 4 (some .int) rm_X5_highestPlace 0 0 G K K [.ref o] mi mi (some (.int res)) := by
  refine nc_meet_i (by decide) (Nat.le_of_ble_eq_true rfl) ?_
  intro p e s m args below meth c Q H locs ls cx hret hw hl
  have cx : nc_C p s m args c cX5_highestPlace 4 RX5 G := cx
  have hl : lv_has ls 4 [(0, .ref o)] := hl
  have hx := cx.1
  have hb := cx.2.1
  unfold f_X5_highestPlace at hf
  refine lv_iconst (v := (-1)) hx hb dX5_highestPlace_0 (by decide) ?_
  refine lv_istore_n (lv' := [(1, .int (-1)), (0, .ref o)]) hx hb dX5_highestPlace_1 rfl hl (by decide) rfl (fun ls hl => ?_)
  refine lv_iconst (v := 0) hx hb dX5_highestPlace_2 (by decide) ?_
  refine lv_istore_n (lv' := [(2, .int 0), (1, .int (-1)), (0, .ref o)]) hx hb dX5_highestPlace_3 rfl hl (by decide) rfl (fun ls hl => ?_)
  refine nc_loop_w (P := fun κ : Int32 → Int32 → Option (Int32) => ∀ (x1 : Int32) (x2 : Int32), κ x1 x2 = some res → ∀ (H : Heap) (locs : List Loc) (ls : Array Slot), nc_W G K mi H locs → lv_has ls 4 [(0, .ref o), (1, .int x1), (2, .int x2)] → W p l e rm_X5_highestPlace s m args below meth c H locs 0 0 Q (F0 m 4 ls [])) ?_ ?_ 200 _ _ hf _ _ _ hw (lv_sub hl [2, 1, 0] rfl)
  · intro x1 x2 hf; exact absurd hf (by intro q; cases q)
  · intro rc3 ihrc3 x1 x2 hf H locs ls hw hl
    unfold B_X5_highestPlace_4 at hf
    refine lv_iload_n hx hb dX5_highestPlace_4 rfl (lv_at hl 2 rfl) ?_
    refine lv_aload_n hx hb dX5_highestPlace_5 rfl (lv_at hl 0 rfl) ?_
    refine gr_X5_23 cx hw (lTown_is h0) (lTown_way h0) (lTown_way_L h0) dX5_highestPlace_6 ?_
    refine nc_alen (v := 49) cx hw (lTown_way_L h0) rfl dX5_highestPlace_9 ?_
    refine lv_icmp_ge (tgt := 37) hx hb dX5_highestPlace_10 (by decide) (fun c4 => ?_) (fun c4 => ?_)
    · have hf := nc_ifp hf c4
      refine lv_iconst (v := 0) hx hb dX5_highestPlace_37 (by decide) ?_
      refine lv_istore_n (lv' := [(2, .int 0), (0, .ref o), (1, .int x1)]) hx hb dX5_highestPlace_38 rfl hl (by decide) rfl (fun ls hl => ?_)
      refine nc_loop_w (P := fun κ : Int32 → Int32 → Option (Int32) => ∀ (x5 : Int32) (x6 : Int32), κ x5 x6 = some res → ∀ (H : Heap) (locs : List Loc) (ls : Array Slot), nc_W G K mi H locs → lv_has ls 4 [(0, .ref o), (1, .int x5), (2, .int x6)] → W p l e rm_X5_highestPlace s m args below meth c H locs 0 0 Q (F0 m 39 ls [])) ?_ ?_ 200 _ _ hf _ _ _ hw (lv_sub hl [1, 2, 0] rfl)
      · intro x5 x6 hf; exact absurd hf (by intro q; cases q)
      · intro rc7 ihrc7 x5 x6 hf H locs ls hw hl
        unfold B_X5_highestPlace_39 at hf
        refine lv_iload_n hx hb dX5_highestPlace_39 rfl (lv_at hl 2 rfl) ?_
        refine lv_aload_n hx hb dX5_highestPlace_40 rfl (lv_at hl 0 rfl) ?_
        refine gi_X5_52 cx hw (lTown_is h0) dX5_highestPlace_41 ?_
        refine lv_icmp_ge (tgt := 83) hx hb dX5_highestPlace_44 (by decide) (fun c8 => ?_) (fun c8 => ?_)
        · have hf := nc_ifp hf c8
          refine lv_iconst (v := 0) hx hb dX5_highestPlace_83 (by decide) ?_
          refine lv_istore_n (lv' := [(2, .int 0), (0, .ref o), (1, .int x5)]) hx hb dX5_highestPlace_84 rfl hl (by decide) rfl (fun ls hl => ?_)
          refine nc_loop_w (P := fun κ : Int32 → Int32 → Option (Int32) => ∀ (x9 : Int32) (x10 : Int32), κ x9 x10 = some res → ∀ (H : Heap) (locs : List Loc) (ls : Array Slot), nc_W G K mi H locs → lv_has ls 4 [(0, .ref o), (1, .int x9), (2, .int x10)] → W p l e rm_X5_highestPlace s m args below meth c H locs 0 0 Q (F0 m 85 ls [])) ?_ ?_ 200 _ _ hf _ _ _ hw (lv_sub hl [1, 2, 0] rfl)
          · intro x9 x10 hf; exact absurd hf (by intro q; cases q)
          · intro rc11 ihrc11 x9 x10 hf H locs ls hw hl
            unfold B_X5_highestPlace_85 at hf
            refine lv_iload_n hx hb dX5_highestPlace_85 rfl (lv_at hl 2 rfl) ?_
            refine lv_aload_n hx hb dX5_highestPlace_86 rfl (lv_at hl 0 rfl) ?_
            refine gi_X5_55 cx hw (lTown_is h0) dX5_highestPlace_87 ?_
            refine lv_icmp_ge (tgt := 140) hx hb dX5_highestPlace_90 (by decide) (fun c12 => ?_) (fun c12 => ?_)
            · have hf := nc_ifp hf c12
              refine lv_iload_n hx hb dX5_highestPlace_140 rfl (lv_at hl 1 rfl) ?_
              exact nc_rpp hret hf rfl hw dX5_highestPlace_141
            · have hf := nc_ifn hf c12
              refine lv_aload_n hx hb dX5_highestPlace_93 rfl (lv_at hl 0 rfl) ?_
              refine gr_X5_19 cx hw (lTown_is h0) (lTown_goods h0) (lTown_goods_L h0) dX5_highestPlace_94 ?_
              refine lv_iload_n hx hb dX5_highestPlace_97 rfl (lv_at hl 2 rfl) ?_
              obtain ⟨j13, ej13, ij13, lj13, hf⟩ := nc_ix hf
              refine nc_ald cx hw (by decide) (lTown_goods_L h0) ij13 ej13 ((lTown_goods_E h0 j13 lj13)).1 (lThing_is ((lTown_goods_E h0 j13 lj13)).2) dX5_highestPlace_98 ?_
              refine lv_astore_n (lv' := [(3, .ref (o + 11 + j13)), (0, .ref o), (1, .int x9), (2, .int x10)]) hx hb dX5_highestPlace_99 rfl hl (by decide) rfl (fun ls hl => ?_)
              refine lv_iload_n hx hb dX5_highestPlace_100 rfl (lv_at hl 2 rfl) ?_
              refine lv_aload_n hx hb dX5_highestPlace_101 rfl (lv_at hl 0 rfl) ?_
              refine gi_X5_95 cx hw (lThing_is ((lTown_goods_E h0 j13 lj13)).2) dX5_highestPlace_102 ?_
              refine lv_aload_n hx hb dX5_highestPlace_105 rfl (lv_at hl 0 rfl) ?_
              refine gi_X5_96 cx hw (lThing_is ((lTown_goods_E h0 j13 lj13)).2) dX5_highestPlace_106 ?_
              refine nc_mx cx hl.1 (nc_w 494 (by decide +kernel) rfl) ⟨Nat.le_of_ble_eq_true rfl, Nat.le_of_ble_eq_true rfl⟩ dX5_highestPlace_109 ?_
              refine nc_mx cx hl.1 (nc_w 494 (by decide +kernel) rfl) ⟨Nat.le_of_ble_eq_true rfl, Nat.le_of_ble_eq_true rfl⟩ dX5_highestPlace_112 ?_
              refine lv_topi (fun x14 ex14 => ?_)
              have hf := nc_let_at hf ex14
              refine lv_istore_n (lv' := [(1, .int x14), (3, .ref (o + 11 + j13)), (0, .ref o), (2, .int x10)]) hx hb dX5_highestPlace_115 rfl hl (by decide) rfl (fun ls hl => ?_)
              refine lv_aload_n hx hb dX5_highestPlace_116 rfl (lv_at hl 1 rfl) ?_
              refine gi_X5_97 cx hw (lThing_is ((lTown_goods_E h0 j13 lj13)).2) dX5_highestPlace_117 ?_
              refine lv_bipush (v := 10) hx hb dX5_highestPlace_120 (by decide) ?_
              refine lv_icmp_ge (tgt := 134) hx hb dX5_highestPlace_122 (by decide) (fun c15 => ?_) (fun c15 => ?_)
              · have hf := nc_ifp hf c15
                obtain ⟨x16, ex16⟩ : ∃ y : Int32, y = x10 + 1 := ⟨_, rfl⟩
                have hf := nc_let_at hf ex16
                refine lv_iinc (v := x16) (lv' := [(2, .int x16), (1, .int x14), (3, .ref (o + 11 + j13)), (0, .ref o)]) hx hb dX5_highestPlace_134 hl (k := 3) rfl (by rw [ex16]; rfl) (by decide) rfl (fun ls hl => ?_)
                refine lv_goto (tgt := 85) hx hb dX5_highestPlace_137 (by decide) ?_
                exact ihrc11 _ _ hf _ _ _ hw (lv_sub hl [3, 1, 0] rfl)
              · have hf := nc_ifn hf c15
                refine lv_iload_n hx hb dX5_highestPlace_125 rfl (lv_at hl 0 rfl) ?_
                refine lv_aload_n hx hb dX5_highestPlace_126 rfl (lv_at hl 1 rfl) ?_
                refine gi_X5_97 cx hw (lThing_is ((lTown_goods_E h0 j13 lj13)).2) dX5_highestPlace_127 ?_
                refine nc_mx cx hl.1 (nc_w 494 (by decide +kernel) rfl) ⟨Nat.le_of_ble_eq_true rfl, Nat.le_of_ble_eq_true rfl⟩ dX5_highestPlace_130 ?_
                refine lv_topi (fun x17 ex17 => ?_)
                have hf := nc_let_at hf ex17
                refine lv_istore_n (lv' := [(1, .int x17), (3, .ref (o + 11 + j13)), (0, .ref o), (2, .int x10)]) hx hb dX5_highestPlace_133 rfl hl (by decide) rfl (fun ls hl => ?_)
                obtain ⟨x18, ex18⟩ : ∃ y : Int32, y = x10 + 1 := ⟨_, rfl⟩
                have hf := nc_let_at hf ex18
                refine lv_iinc (v := x18) (lv' := [(2, .int x18), (1, .int x17), (3, .ref (o + 11 + j13)), (0, .ref o)]) hx hb dX5_highestPlace_134 hl (k := 3) rfl (by rw [ex18]; rfl) (by decide) rfl (fun ls hl => ?_)
                refine lv_goto (tgt := 85) hx hb dX5_highestPlace_137 (by decide) ?_
                exact ihrc11 _ _ hf _ _ _ hw (lv_sub hl [3, 1, 0] rfl)
        · have hf := nc_ifn hf c8
          refine lv_aload_n hx hb dX5_highestPlace_47 rfl (lv_at hl 0 rfl) ?_
          refine gr_X5_11 cx hw (lTown_is h0) (lTown_people h0) (lTown_people_L h0) dX5_highestPlace_48 ?_
          refine lv_iload_n hx hb dX5_highestPlace_51 rfl (lv_at hl 2 rfl) ?_
          obtain ⟨j19, ej19, ij19, lj19, hf⟩ := nc_ix hf
          refine nc_ald cx hw (by decide) (lTown_people_L h0) ij19 ej19 ((lTown_people_E h0 j19 lj19)).1 (lPerson_is ((lTown_people_E h0 j19 lj19)).2) dX5_highestPlace_52 ?_
          refine lv_astore_n (lv' := [(3, .ref (o + 5 + j19)), (0, .ref o), (1, .int x5), (2, .int x6)]) hx hb dX5_highestPlace_53 rfl hl (by decide) rfl (fun ls hl => ?_)
          refine lv_iload_n hx hb dX5_highestPlace_54 rfl (lv_at hl 2 rfl) ?_
          refine lv_aload_n hx hb dX5_highestPlace_55 rfl (lv_at hl 0 rfl) ?_
          refine gi_X5_86 cx hw (lPerson_is ((lTown_people_E h0 j19 lj19)).2) dX5_highestPlace_56 ?_
          refine lv_aload_n hx hb dX5_highestPlace_59 rfl (lv_at hl 0 rfl) ?_
          refine gi_X5_89 cx hw (lPerson_is ((lTown_people_E h0 j19 lj19)).2) dX5_highestPlace_60 ?_
          refine lv_aload_n hx hb dX5_highestPlace_63 rfl (lv_at hl 0 rfl) ?_
          refine gi_X5_92 cx hw (lPerson_is ((lTown_people_E h0 j19 lj19)).2) dX5_highestPlace_64 ?_
          refine nc_mx cx hl.1 (nc_w 494 (by decide +kernel) rfl) ⟨Nat.le_of_ble_eq_true rfl, Nat.le_of_ble_eq_true rfl⟩ dX5_highestPlace_67 ?_
          refine nc_mx cx hl.1 (nc_w 494 (by decide +kernel) rfl) ⟨Nat.le_of_ble_eq_true rfl, Nat.le_of_ble_eq_true rfl⟩ dX5_highestPlace_70 ?_
          refine nc_mx cx hl.1 (nc_w 494 (by decide +kernel) rfl) ⟨Nat.le_of_ble_eq_true rfl, Nat.le_of_ble_eq_true rfl⟩ dX5_highestPlace_73 ?_
          refine lv_topi (fun x20 ex20 => ?_)
          have hf := nc_let_at hf ex20
          refine lv_istore_n (lv' := [(1, .int x20), (3, .ref (o + 5 + j19)), (0, .ref o), (2, .int x6)]) hx hb dX5_highestPlace_76 rfl hl (by decide) rfl (fun ls hl => ?_)
          obtain ⟨x21, ex21⟩ : ∃ y : Int32, y = x6 + 1 := ⟨_, rfl⟩
          have hf := nc_let_at hf ex21
          refine lv_iinc (v := x21) (lv' := [(2, .int x21), (1, .int x20), (3, .ref (o + 5 + j19)), (0, .ref o)]) hx hb dX5_highestPlace_77 hl (k := 3) rfl (by rw [ex21]; rfl) (by decide) rfl (fun ls hl => ?_)
          refine lv_goto (tgt := 39) hx hb dX5_highestPlace_80 (by decide) ?_
          exact ihrc7 _ _ hf _ _ _ hw (lv_sub hl [3, 1, 0] rfl)
    · have hf := nc_ifn hf c4
      refine lv_aload_n hx hb dX5_highestPlace_13 rfl (lv_at hl 0 rfl) ?_
      refine gr_X5_23 cx hw (lTown_is h0) (lTown_way h0) (lTown_way_L h0) dX5_highestPlace_14 ?_
      refine lv_iload_n hx hb dX5_highestPlace_17 rfl (lv_at hl 2 rfl) ?_
      obtain ⟨j22, ej22, ij22, lj22, hf⟩ := nc_ix hf
      refine nc_ild cx hw (lTown_way_L h0) ij22 ej22 dX5_highestPlace_18 ?_
      refine lv_if_le (tgt := 31) hx hb dX5_highestPlace_19 (by decide) (fun c23 => ?_) (fun c23 => ?_)
      · have hf := nc_ifp hf c23
        obtain ⟨x24, ex24⟩ : ∃ y : Int32, y = x2 + 1 := ⟨_, rfl⟩
        have hf := nc_let_at hf ex24
        refine lv_iinc (v := x24) (lv' := [(2, .int x24), (0, .ref o), (1, .int x1)]) hx hb dX5_highestPlace_31 hl (k := 2) rfl (by rw [ex24]; rfl) (by decide) rfl (fun ls hl => ?_)
        refine lv_goto (tgt := 4) hx hb dX5_highestPlace_34 (by decide) ?_
        exact ihrc3 _ _ hf _ _ _ hw (lv_sub hl [1, 2, 0] rfl)
      · have hf := nc_ifn hf c23
        refine lv_iload_n hx hb dX5_highestPlace_22 rfl (lv_at hl 1 rfl) ?_
        refine lv_iload_n hx hb dX5_highestPlace_23 rfl (lv_at hl 2 rfl) ?_
        refine lv_bipush (v := 7) hx hb dX5_highestPlace_24 (by decide) ?_
        refine lv_idiv hx hb dX5_highestPlace_26 (by decide) ?_
        refine nc_mx cx hl.1 (nc_w 494 (by decide +kernel) rfl) ⟨Nat.le_of_ble_eq_true rfl, Nat.le_of_ble_eq_true rfl⟩ dX5_highestPlace_27 ?_
        refine lv_topi (fun x25 ex25 => ?_)
        have hf := nc_let_at hf ex25
        refine lv_istore_n (lv' := [(1, .int x25), (0, .ref o), (2, .int x2)]) hx hb dX5_highestPlace_30 rfl hl (by decide) rfl (fun ls hl => ?_)
        obtain ⟨x26, ex26⟩ : ∃ y : Int32, y = x2 + 1 := ⟨_, rfl⟩
        have hf := nc_let_at hf ex26
        refine lv_iinc (v := x26) (lv' := [(2, .int x26), (1, .int x25), (0, .ref o)]) hx hb dX5_highestPlace_31 hl (k := 2) rfl (by rw [ex26]; rfl) (by decide) rfl (fun ls hl => ?_)
        refine lv_goto (tgt := 4) hx hb dX5_highestPlace_34 (by decide) ?_
        exact ihrc3 _ _ hf _ _ _ hw (lv_sub hl [2, 1, 0] rfl)
abbrev rm_X5_hearPlaces : Room := { frames := 2, cells := 0, slots := 0, locals := 47 }
set_option maxRecDepth 100000 in
set_option maxHeartbeats 4000000 in
theorem c_X5_hearPlaces (l : Launch) {G : nc_G} {K : nc_K} {o : Nat} (h0 : nc_LTown G K o) (mi : nc_Mem) (a1 : Int32) (res : nc_Mem × Int32) (hf : f_X5_hearPlaces mi o a1 = some res) : nc_M l yX5_hearPlaces cX5_hearPlaces 2 (some .boolean) rm_X5_hearPlaces 0 0 G K K [.ref o, .int a1] mi res.1 (some (.int res.2)) := by
  refine nc_meet_i (by decide) (Nat.le_of_ble_eq_true rfl) ?_
  intro p e s m args below meth c Q H locs ls cx hret hw hl
  have cx : nc_C p s m args c cX5_hearPlaces 2 RX5 G := cx
  have hl : lv_has ls 2 [(0, .ref o), (1, .int a1)] := hl
  have hx := cx.1
  have hb := cx.2.1
  unfold f_X5_hearPlaces at hf
  refine lv_iload_n hx hb dX5_hearPlaces_0 rfl (lv_at hl 1 rfl) ?_
  refine lv_iconst (v := 2) hx hb dX5_hearPlaces_1 (by decide) ?_
  refine lv_icmp_lt (tgt := 19) hx hb dX5_hearPlaces_2 (by decide) (fun c1 => ?_) (fun c1 => ?_)
  · have hf := nc_ifp hf c1
    refine lv_iconst (v := 0) hx hb dX5_hearPlaces_19 (by decide) ?_
    exact nc_rpm hret hf rfl hw dX5_hearPlaces_20
  · have hf := nc_ifn hf c1
    refine lv_iload_n hx hb dX5_hearPlaces_5 rfl (lv_at hl 1 rfl) ?_
    refine lv_bipush (v := 7) hx hb dX5_hearPlaces_6 (by decide) ?_
    refine lv_icmp_gt (tgt := 19) hx hb dX5_hearPlaces_8 (by decide) (fun c2 => ?_) (fun c2 => ?_)
    · have hf := nc_ifp hf c2
      refine lv_iconst (v := 0) hx hb dX5_hearPlaces_19 (by decide) ?_
      exact nc_rpm hret hf rfl hw dX5_hearPlaces_20
    · have hf := nc_ifn hf c2
      refine lv_iload_n hx hb dX5_hearPlaces_11 rfl (lv_at hl 1 rfl) ?_
      refine lv_aload_n hx hb dX5_hearPlaces_12 rfl (lv_at hl 0 rfl) ?_
      obtain ⟨q3, hq3, hf⟩ := nc_bi hf
      refine nc_callVi cx hw lk_X5_76 (c_X5_highestPlace l h0 mi  q3 hq3) (ci := 5) rfl (lTown_is h0) rfl hl.1 rfl (Nat.le_of_ble_eq_true rfl) ⟨rfl, rfl, Nat.le_of_ble_eq_true rfl, Nat.le_of_ble_eq_true rfl⟩ dX5_hearPlaces_13 (fun H locs hw => ?_)
      refine lv_icmp_gt (tgt := 21) hx hb dX5_hearPlaces_16 (by decide) (fun c4 => ?_) (fun c4 => ?_)
      · have hf := nc_ifp hf c4
        refine lv_aload_n hx hb dX5_hearPlaces_21 rfl (lv_at hl 0 rfl) ?_
        refine lv_iload_n hx hb dX5_hearPlaces_22 rfl (lv_at hl 1 rfl) ?_
        refine pi_X5_30 cx hw (lTown_is h0) dX5_hearPlaces_23 (fun mi5 H locs emi5 hw => ?_)
        have hf := nc_let_at hf emi5
        refine lv_iconst (v := 1) hx hb dX5_hearPlaces_26 (by decide) ?_
        exact nc_rpm hret hf rfl hw dX5_hearPlaces_27
      · have hf := nc_ifn hf c4
        refine lv_iconst (v := 0) hx hb dX5_hearPlaces_19 (by decide) ?_
        exact nc_rpm hret hf rfl hw dX5_hearPlaces_20
abbrev rm_X5_isPlace : Room := { frames := 0, cells := 0, slots := 0, locals := 0 }
set_option maxRecDepth 100000 in
set_option maxHeartbeats 4000000 in
theorem c_X5_isPlace (l : Launch) {G : nc_G} {K : nc_K} {o : Nat} (h0 : nc_LTown G K o) (mi : nc_Mem) (a1 : Int32) (res : Int32) (hf : f_X5_isPlace mi o a1 = res) : nc_M l yX5_isPlace cX5_isPlace 2 (some .boolean) rm_X5_isPlace 0 0 G K K [.ref o, .int a1] mi mi (some (.int res)) := by
  refine nc_meet_i (by decide) (Nat.le_of_ble_eq_true rfl) ?_
  intro p e s m args below meth c Q H locs ls cx hret hw hl
  have cx : nc_C p s m args c cX5_isPlace 2 RX5 G := cx
  have hl : lv_has ls 2 [(0, .ref o), (1, .int a1)] := hl
  have hx := cx.1
  have hb := cx.2.1
  unfold f_X5_isPlace at hf
  refine lv_iload_n hx hb dX5_isPlace_0 rfl (lv_at hl 1 rfl) ?_
  refine lv_if_lt (tgt := 16) hx hb dX5_isPlace_1 (by decide) (fun c1 => ?_) (fun c1 => ?_)
  · have hf := nc_ifp hf c1
    refine lv_iconst (v := 0) hx hb dX5_isPlace_16 (by decide) ?_
    exact nc_rtp hret hf rfl hw dX5_isPlace_17
  · have hf := nc_ifn hf c1
    refine lv_iload_n hx hb dX5_isPlace_4 rfl (lv_at hl 1 rfl) ?_
    refine lv_aload_n hx hb dX5_isPlace_5 rfl (lv_at hl 0 rfl) ?_
    refine gi_X5_30 cx hw (lTown_is h0) dX5_isPlace_6 ?_
    refine lv_icmp_ge (tgt := 16) hx hb dX5_isPlace_9 (by decide) (fun c2 => ?_) (fun c2 => ?_)
    · have hf := nc_ifp hf c2
      refine lv_iconst (v := 0) hx hb dX5_isPlace_16 (by decide) ?_
      exact nc_rtp hret hf rfl hw dX5_isPlace_17
    · have hf := nc_ifn hf c2
      refine lv_iconst (v := 1) hx hb dX5_isPlace_12 (by decide) ?_
      refine lv_goto (tgt := 17) hx hb dX5_isPlace_13 (by decide) ?_
      exact nc_rtp hret hf rfl hw dX5_isPlace_17
abbrev rm_X5_hearWay : Room := { frames := 1, cells := 0, slots := 0, locals := 21 }
set_option maxRecDepth 100000 in
set_option maxHeartbeats 4000000 in
theorem c_X5_hearWay (l : Launch) {G : nc_G} {K : nc_K} {o : Nat} (h0 : nc_LTown G K o) (mi : nc_Mem) (a1 a2 a3 : Int32) (res : nc_Mem × Int32) (hf : f_X5_hearWay mi o a1 a2 a3 = some res) : nc_M l yX5_hearWay cX5_hearWay 4 (some .boolean) rm_X5_hearWay 0 0 G K K [.ref o, .int a1, .int a2, .int a3] mi res.1 (some (.int res.2)) := by
  refine nc_meet_i (by decide) (Nat.le_of_ble_eq_true rfl) ?_
  intro p e s m args below meth c Q H locs ls cx hret hw hl
  have cx : nc_C p s m args c cX5_hearWay 4 RX5 G := cx
  have hl : lv_has ls 4 [(0, .ref o), (1, .int a1), (2, .int a2), (3, .int a3)] := hl
  have hx := cx.1
  have hb := cx.2.1
  unfold f_X5_hearWay at hf
  refine lv_aload_n hx hb dX5_hearWay_0 rfl (lv_at hl 0 rfl) ?_
  refine lv_iload_n hx hb dX5_hearWay_1 rfl (lv_at hl 1 rfl) ?_
  refine nc_callVi cx hw lk_X5_100 (c_X5_isPlace l h0 mi a1 _ rfl) (ci := 5) rfl (lTown_is h0) rfl hl.1 rfl (Nat.le_of_ble_eq_true rfl) ⟨rfl, rfl, Nat.le_of_ble_eq_true rfl, Nat.le_of_ble_eq_true rfl⟩ dX5_hearWay_2 (fun H locs hw => ?_)
  refine lv_if_eq (tgt := 32) hx hb dX5_hearWay_5 (by decide) (fun c1 => ?_) (fun c1 => ?_)
  · have hf := nc_ifp hf c1
    refine lv_iconst (v := 0) hx hb dX5_hearWay_32 (by decide) ?_
    exact nc_rpm hret hf rfl hw dX5_hearWay_33
  · have hf := nc_ifn hf c1
    refine lv_aload_n hx hb dX5_hearWay_8 rfl (lv_at hl 0 rfl) ?_
    refine lv_iload_n hx hb dX5_hearWay_9 rfl (lv_at hl 2 rfl) ?_
    refine nc_callVi cx hw lk_X5_100 (c_X5_isPlace l h0 mi a2 _ rfl) (ci := 5) rfl (lTown_is h0) rfl hl.1 rfl (Nat.le_of_ble_eq_true rfl) ⟨rfl, rfl, Nat.le_of_ble_eq_true rfl, Nat.le_of_ble_eq_true rfl⟩ dX5_hearWay_10 (fun H locs hw => ?_)
    refine lv_if_eq (tgt := 32) hx hb dX5_hearWay_13 (by decide) (fun c2 => ?_) (fun c2 => ?_)
    · have hf := nc_ifp hf c2
      refine lv_iconst (v := 0) hx hb dX5_hearWay_32 (by decide) ?_
      exact nc_rpm hret hf rfl hw dX5_hearWay_33
    · have hf := nc_ifn hf c2
      refine lv_iload_n hx hb dX5_hearWay_16 rfl (lv_at hl 1 rfl) ?_
      refine lv_iload_n hx hb dX5_hearWay_17 rfl (lv_at hl 2 rfl) ?_
      refine lv_icmp_eq (tgt := 32) hx hb dX5_hearWay_18 (by decide) (fun c3 => ?_) (fun c3 => ?_)
      · have hf := nc_ifp hf c3
        refine lv_iconst (v := 0) hx hb dX5_hearWay_32 (by decide) ?_
        exact nc_rpm hret hf rfl hw dX5_hearWay_33
      · have hf := nc_ifn hf c3
        refine lv_iload_n hx hb dX5_hearWay_21 rfl (lv_at hl 3 rfl) ?_
        refine lv_iconst (v := 1) hx hb dX5_hearWay_22 (by decide) ?_
        refine lv_icmp_lt (tgt := 32) hx hb dX5_hearWay_23 (by decide) (fun c4 => ?_) (fun c4 => ?_)
        · have hf := nc_ifp hf c4
          refine lv_iconst (v := 0) hx hb dX5_hearWay_32 (by decide) ?_
          exact nc_rpm hret hf rfl hw dX5_hearWay_33
        · have hf := nc_ifn hf c4
          refine lv_iload_n hx hb dX5_hearWay_26 rfl (lv_at hl 3 rfl) ?_
          refine lv_bipush (v := 60) hx hb dX5_hearWay_27 (by decide) ?_
          refine lv_icmp_le (tgt := 34) hx hb dX5_hearWay_29 (by decide) (fun c5 => ?_) (fun c5 => ?_)
          · have hf := nc_ifp hf c5
            refine lv_aload_n hx hb dX5_hearWay_34 rfl (lv_at hl 0 rfl) ?_
            refine gr_X5_23 cx hw (lTown_is h0) (lTown_way h0) (lTown_way_L h0) dX5_hearWay_35 ?_
            refine lv_iload_n hx hb dX5_hearWay_38 rfl (lv_at hl 1 rfl) ?_
            refine lv_bipush (v := 7) hx hb dX5_hearWay_39 (by decide) ?_
            refine lv_imul hx hb dX5_hearWay_41 ?_
            refine lv_iload_n hx hb dX5_hearWay_42 rfl (lv_at hl 2 rfl) ?_
            refine lv_iadd hx hb dX5_hearWay_43 ?_
            refine lv_iload_n hx hb dX5_hearWay_44 rfl (lv_at hl 3 rfl) ?_
            obtain ⟨j6, ej6, ij6, lj6, hf⟩ := nc_ix hf
            refine nc_ist cx hw (lTown_way_L h0) ij6 ej6 dX5_hearWay_45 (fun mi7 H locs emi7 hw => ?_)
            have hf := nc_let_at hf emi7
            refine lv_aload_n hx hb dX5_hearWay_46 rfl (lv_at hl 0 rfl) ?_
            refine gr_X5_23 cx hw (lTown_is h0) (lTown_way h0) (lTown_way_L h0) dX5_hearWay_47 ?_
            refine lv_iload_n hx hb dX5_hearWay_50 rfl (lv_at hl 2 rfl) ?_
            refine lv_bipush (v := 7) hx hb dX5_hearWay_51 (by decide) ?_
            refine lv_imul hx hb dX5_hearWay_53 ?_
            refine lv_iload_n hx hb dX5_hearWay_54 rfl (lv_at hl 1 rfl) ?_
            refine lv_iadd hx hb dX5_hearWay_55 ?_
            refine lv_iload_n hx hb dX5_hearWay_56 rfl (lv_at hl 3 rfl) ?_
            obtain ⟨j8, ej8, ij8, lj8, hf⟩ := nc_ix hf
            refine nc_ist cx hw (lTown_way_L h0) ij8 ej8 dX5_hearWay_57 (fun mi9 H locs emi9 hw => ?_)
            have hf := nc_let_at hf emi9
            refine lv_iconst (v := 1) hx hb dX5_hearWay_58 (by decide) ?_
            exact nc_rpm hret hf rfl hw dX5_hearWay_59
          · have hf := nc_ifn hf c5
            refine lv_iconst (v := 0) hx hb dX5_hearWay_32 (by decide) ?_
            exact nc_rpm hret hf rfl hw dX5_hearWay_33
abbrev rm_X5_hearPerson : Room := { frames := 1, cells := 0, slots := 0, locals := 21 }
set_option maxRecDepth 100000 in
set_option maxHeartbeats 4000000 in
theorem c_X5_hearPerson (l : Launch) {G : nc_G} {K : nc_K} {o r1 : Nat} (h0 : nc_LTown G K o) (h1 : nc_Is G K r1 (9, 7)) (mi : nc_Mem)  (res : nc_Mem × Int32) (hf : f_X5_hearPerson mi o r1 = some res) : nc_M l yX5_hearPerson cX5_hearPerson 3 (some .boolean) rm_X5_hearPerson 0 0 G K K [.ref o, .ref r1] mi res.1 (some (.int res.2)) := by
  refine nc_meet_i (by decide) (Nat.le_of_ble_eq_true rfl) ?_
  intro p e s m args below meth c Q H locs ls cx hret hw hl
  have cx : nc_C p s m args c cX5_hearPerson 3 RX5 G := cx
  have hl : lv_has ls 3 [(0, .ref o), (1, .ref r1)] := hl
  have hx := cx.1
  have hb := cx.2.1
  unfold f_X5_hearPerson at hf
  refine lv_aload_n hx hb dX5_hearPerson_0 rfl (lv_at hl 0 rfl) ?_
  refine gi_X5_52 cx hw (lTown_is h0) dX5_hearPerson_1 ?_
  refine lv_bipush (v := 6) hx hb dX5_hearPerson_4 (by decide) ?_
  refine lv_icmp_ge (tgt := 38) hx hb dX5_hearPerson_6 (by decide) (fun c1 => ?_) (fun c1 => ?_)
  · have hf := nc_ifp hf c1
    refine lv_iconst (v := 0) hx hb dX5_hearPerson_38 (by decide) ?_
    exact nc_rpm hret hf rfl hw dX5_hearPerson_39
  · have hf := nc_ifn hf c1
    refine lv_aload_n hx hb dX5_hearPerson_9 rfl (lv_at hl 0 rfl) ?_
    refine lv_aload_n hx hb dX5_hearPerson_10 rfl (lv_at hl 1 rfl) ?_
    refine lv_iconst (v := 0) hx hb dX5_hearPerson_11 (by decide) ?_
    refine nc_ild cx hw h1 (nc_lit (j := 0) rfl (by decide) (by decide)) rfl dX5_hearPerson_12 ?_
    refine nc_callVi cx hw lk_X5_100 (c_X5_isPlace l h0 mi (mi r1 0) _ rfl) (ci := 5) rfl (lTown_is h0) rfl hl.1 rfl (Nat.le_of_ble_eq_true rfl) ⟨rfl, rfl, Nat.le_of_ble_eq_true rfl, Nat.le_of_ble_eq_true rfl⟩ dX5_hearPerson_13 (fun H locs hw => ?_)
    refine lv_if_eq (tgt := 38) hx hb dX5_hearPerson_16 (by decide) (fun c2 => ?_) (fun c2 => ?_)
    · have hf := nc_ifp hf c2
      refine lv_iconst (v := 0) hx hb dX5_hearPerson_38 (by decide) ?_
      exact nc_rpm hret hf rfl hw dX5_hearPerson_39
    · have hf := nc_ifn hf c2
      refine lv_aload_n hx hb dX5_hearPerson_19 rfl (lv_at hl 0 rfl) ?_
      refine lv_aload_n hx hb dX5_hearPerson_20 rfl (lv_at hl 1 rfl) ?_
      refine lv_iconst (v := 1) hx hb dX5_hearPerson_21 (by decide) ?_
      refine nc_ild cx hw h1 (nc_lit (j := 1) rfl (by decide) (by decide)) rfl dX5_hearPerson_22 ?_
      refine nc_callVi cx hw lk_X5_100 (c_X5_isPlace l h0 mi (mi r1 1) _ rfl) (ci := 5) rfl (lTown_is h0) rfl hl.1 rfl (Nat.le_of_ble_eq_true rfl) ⟨rfl, rfl, Nat.le_of_ble_eq_true rfl, Nat.le_of_ble_eq_true rfl⟩ dX5_hearPerson_23 (fun H locs hw => ?_)
      refine lv_if_eq (tgt := 38) hx hb dX5_hearPerson_26 (by decide) (fun c3 => ?_) (fun c3 => ?_)
      · have hf := nc_ifp hf c3
        refine lv_iconst (v := 0) hx hb dX5_hearPerson_38 (by decide) ?_
        exact nc_rpm hret hf rfl hw dX5_hearPerson_39
      · have hf := nc_ifn hf c3
        refine lv_aload_n hx hb dX5_hearPerson_29 rfl (lv_at hl 1 rfl) ?_
        refine lv_iconst (v := 2) hx hb dX5_hearPerson_30 (by decide) ?_
        refine nc_ild cx hw h1 (nc_lit (j := 2) rfl (by decide) (by decide)) rfl dX5_hearPerson_31 ?_
        refine lv_sipush (v := 720) hx hb dX5_hearPerson_32 (by decide) ?_
        refine lv_icmp_le (tgt := 40) hx hb dX5_hearPerson_35 (by decide) (fun c4 => ?_) (fun c4 => ?_)
        · have hf := nc_ifp hf c4
          refine lv_aload_n hx hb dX5_hearPerson_40 rfl (lv_at hl 0 rfl) ?_
          refine gr_X5_11 cx hw (lTown_is h0) (lTown_people h0) (lTown_people_L h0) dX5_hearPerson_41 ?_
          refine lv_aload_n hx hb dX5_hearPerson_44 rfl (lv_at hl 0 rfl) ?_
          refine gi_X5_52 cx hw (lTown_is h0) dX5_hearPerson_45 ?_
          obtain ⟨j5, ej5, ij5, lj5, hf⟩ := nc_ix hf
          refine nc_ald cx hw (by decide) (lTown_people_L h0) ij5 ej5 ((lTown_people_E h0 j5 lj5)).1 (lPerson_is ((lTown_people_E h0 j5 lj5)).2) dX5_hearPerson_48 ?_
          refine lv_astore_n (lv' := [(2, .ref (o + 5 + j5)), (0, .ref o), (1, .ref r1)]) hx hb dX5_hearPerson_49 rfl hl (by decide) rfl (fun ls hl => ?_)
          refine lv_aload_n hx hb dX5_hearPerson_50 rfl (lv_at hl 0 rfl) ?_
          refine lv_aload_n hx hb dX5_hearPerson_51 rfl (lv_at hl 2 rfl) ?_
          refine lv_iconst (v := 0) hx hb dX5_hearPerson_52 (by decide) ?_
          refine nc_ild cx hw h1 (nc_lit (j := 0) rfl (by decide) (by decide)) rfl dX5_hearPerson_53 ?_
          refine pi_X5_89 cx hw (lPerson_is ((lTown_people_E h0 j5 lj5)).2) dX5_hearPerson_54 (fun mi6 H locs emi6 hw => ?_)
          have hf := nc_let_at hf emi6
          refine lv_aload_n hx hb dX5_hearPerson_57 rfl (lv_at hl 0 rfl) ?_
          refine lv_aload_n hx hb dX5_hearPerson_58 rfl (lv_at hl 2 rfl) ?_
          refine lv_iconst (v := 1) hx hb dX5_hearPerson_59 (by decide) ?_
          refine nc_ild cx hw h1 (nc_lit (j := 1) rfl (by decide) (by decide)) rfl dX5_hearPerson_60 ?_
          refine pi_X5_92 cx hw (lPerson_is ((lTown_people_E h0 j5 lj5)).2) dX5_hearPerson_61 (fun mi7 H locs emi7 hw => ?_)
          have hf := nc_let_at hf emi7
          refine lv_aload_n hx hb dX5_hearPerson_64 rfl (lv_at hl 0 rfl) ?_
          refine lv_aload_n hx hb dX5_hearPerson_65 rfl (lv_at hl 2 rfl) ?_
          refine lv_iconst (v := 2) hx hb dX5_hearPerson_66 (by decide) ?_
          refine nc_ild cx hw h1 (nc_lit (j := 2) rfl (by decide) (by decide)) rfl dX5_hearPerson_67 ?_
          refine pi_X5_103 cx hw (lPerson_is ((lTown_people_E h0 j5 lj5)).2) dX5_hearPerson_68 (fun mi8 H locs emi8 hw => ?_)
          have hf := nc_let_at hf emi8
          refine lv_aload_n hx hb dX5_hearPerson_71 rfl (lv_at hl 0 rfl) ?_
          refine lv_aload_n hx hb dX5_hearPerson_72 rfl (lv_at hl 2 rfl) ?_
          refine lv_iconst (v := 3) hx hb dX5_hearPerson_73 (by decide) ?_
          refine nc_ild cx hw h1 (nc_lit (j := 3) rfl (by decide) (by decide)) rfl dX5_hearPerson_74 ?_
          refine pi_X5_106 cx hw (lPerson_is ((lTown_people_E h0 j5 lj5)).2) dX5_hearPerson_75 (fun mi9 H locs emi9 hw => ?_)
          have hf := nc_let_at hf emi9
          refine lv_aload_n hx hb dX5_hearPerson_78 rfl (lv_at hl 0 rfl) ?_
          refine lv_aload_n hx hb dX5_hearPerson_79 rfl (lv_at hl 2 rfl) ?_
          refine lv_iconst (v := 4) hx hb dX5_hearPerson_80 (by decide) ?_
          refine nc_ild cx hw h1 (nc_lit (j := 4) rfl (by decide) (by decide)) rfl dX5_hearPerson_81 ?_
          refine pi_X5_109 cx hw (lPerson_is ((lTown_people_E h0 j5 lj5)).2) dX5_hearPerson_82 (fun mi10 H locs emi10 hw => ?_)
          have hf := nc_let_at hf emi10
          refine lv_aload_n hx hb dX5_hearPerson_85 rfl (lv_at hl 0 rfl) ?_
          refine lv_aload_n hx hb dX5_hearPerson_86 rfl (lv_at hl 0 rfl) ?_
          refine gi_X5_89 cx hw (lPerson_is ((lTown_people_E h0 j5 lj5)).2) dX5_hearPerson_87 ?_
          refine pi_X5_86 cx hw (lPerson_is ((lTown_people_E h0 j5 lj5)).2) dX5_hearPerson_90 (fun mi11 H locs emi11 hw => ?_)
          have hf := nc_let_at hf emi11
          refine lv_aload_n hx hb dX5_hearPerson_93 rfl (lv_at hl 0 rfl) ?_
          refine lv_aload_n hx hb dX5_hearPerson_94 rfl (lv_at hl 0 rfl) ?_
          refine gi_X5_103 cx hw (lPerson_is ((lTown_people_E h0 j5 lj5)).2) dX5_hearPerson_95 ?_
          refine pi_X5_112 cx hw (lPerson_is ((lTown_people_E h0 j5 lj5)).2) dX5_hearPerson_98 (fun mi12 H locs emi12 hw => ?_)
          have hf := nc_let_at hf emi12
          refine lv_aload_n hx hb dX5_hearPerson_101 rfl (lv_at hl 1 rfl) ?_
          refine lv_dup hx hb dX5_hearPerson_102 rfl ?_
          refine gi_X5_52 cx hw (lTown_is h0) dX5_hearPerson_103 ?_
          refine lv_iconst (v := 1) hx hb dX5_hearPerson_106 (by decide) ?_
          refine lv_iadd hx hb dX5_hearPerson_107 ?_
          refine pi_X5_52 cx hw (lTown_is h0) dX5_hearPerson_108 (fun mi13 H locs emi13 hw => ?_)
          have hf := nc_let_at hf emi13
          refine lv_iconst (v := 1) hx hb dX5_hearPerson_111 (by decide) ?_
          exact nc_rpm hret hf rfl hw dX5_hearPerson_112
        · have hf := nc_ifn hf c4
          refine lv_iconst (v := 0) hx hb dX5_hearPerson_38 (by decide) ?_
          exact nc_rpm hret hf rfl hw dX5_hearPerson_39
abbrev rm_X5_isPerson : Room := { frames := 0, cells := 0, slots := 0, locals := 0 }
set_option maxRecDepth 100000 in
set_option maxHeartbeats 4000000 in
theorem c_X5_isPerson (l : Launch) {G : nc_G} {K : nc_K} {o : Nat} (h0 : nc_LTown G K o) (mi : nc_Mem) (a1 : Int32) (res : Int32) (hf : f_X5_isPerson mi o a1 = res) : nc_M l yX5_isPerson cX5_isPerson 2 (some .boolean) rm_X5_isPerson 0 0 G K K [.ref o, .int a1] mi mi (some (.int res)) := by
  refine nc_meet_i (by decide) (Nat.le_of_ble_eq_true rfl) ?_
  intro p e s m args below meth c Q H locs ls cx hret hw hl
  have cx : nc_C p s m args c cX5_isPerson 2 RX5 G := cx
  have hl : lv_has ls 2 [(0, .ref o), (1, .int a1)] := hl
  have hx := cx.1
  have hb := cx.2.1
  unfold f_X5_isPerson at hf
  refine lv_iload_n hx hb dX5_isPerson_0 rfl (lv_at hl 1 rfl) ?_
  refine lv_if_lt (tgt := 16) hx hb dX5_isPerson_1 (by decide) (fun c1 => ?_) (fun c1 => ?_)
  · have hf := nc_ifp hf c1
    refine lv_iconst (v := 0) hx hb dX5_isPerson_16 (by decide) ?_
    exact nc_rtp hret hf rfl hw dX5_isPerson_17
  · have hf := nc_ifn hf c1
    refine lv_iload_n hx hb dX5_isPerson_4 rfl (lv_at hl 1 rfl) ?_
    refine lv_aload_n hx hb dX5_isPerson_5 rfl (lv_at hl 0 rfl) ?_
    refine gi_X5_52 cx hw (lTown_is h0) dX5_isPerson_6 ?_
    refine lv_icmp_ge (tgt := 16) hx hb dX5_isPerson_9 (by decide) (fun c2 => ?_) (fun c2 => ?_)
    · have hf := nc_ifp hf c2
      refine lv_iconst (v := 0) hx hb dX5_isPerson_16 (by decide) ?_
      exact nc_rtp hret hf rfl hw dX5_isPerson_17
    · have hf := nc_ifn hf c2
      refine lv_iconst (v := 1) hx hb dX5_isPerson_12 (by decide) ?_
      refine lv_goto (tgt := 17) hx hb dX5_isPerson_13 (by decide) ?_
      exact nc_rtp hret hf rfl hw dX5_isPerson_17
abbrev rm_X5_hearThing : Room := { frames := 1, cells := 0, slots := 0, locals := 21 }
set_option maxRecDepth 100000 in
set_option maxHeartbeats 4000000 in
theorem c_X5_hearThing (l : Launch) {G : nc_G} {K : nc_K} {o r1 : Nat} (h0 : nc_LTown G K o) (h1 : nc_Is G K r1 (9, 7)) (mi : nc_Mem)  (res : nc_Mem × Int32) (hf : f_X5_hearThing mi o r1 = some res) : nc_M l yX5_hearThing cX5_hearThing 3 (some .boolean) rm_X5_hearThing 0 0 G K K [.ref o, .ref r1] mi res.1 (some (.int res.2)) := by
  refine nc_meet_i (by decide) (Nat.le_of_ble_eq_true rfl) ?_
  intro p e s m args below meth c Q H locs ls cx hret hw hl
  have cx : nc_C p s m args c cX5_hearThing 3 RX5 G := cx
  have hl : lv_has ls 3 [(0, .ref o), (1, .ref r1)] := hl
  have hx := cx.1
  have hb := cx.2.1
  unfold f_X5_hearThing at hf
  refine lv_aload_n hx hb dX5_hearThing_0 rfl (lv_at hl 0 rfl) ?_
  refine gi_X5_55 cx hw (lTown_is h0) dX5_hearThing_1 ?_
  refine lv_bipush (v := 6) hx hb dX5_hearThing_4 (by decide) ?_
  refine lv_icmp_ge (tgt := 56) hx hb dX5_hearThing_6 (by decide) (fun c1 => ?_) (fun c1 => ?_)
  · have hf := nc_ifp hf c1
    refine lv_iconst (v := 0) hx hb dX5_hearThing_56 (by decide) ?_
    exact nc_rpm hret hf rfl hw dX5_hearThing_57
  · have hf := nc_ifn hf c1
    refine lv_aload_n hx hb dX5_hearThing_9 rfl (lv_at hl 0 rfl) ?_
    refine lv_aload_n hx hb dX5_hearThing_10 rfl (lv_at hl 1 rfl) ?_
    refine lv_iconst (v := 0) hx hb dX5_hearThing_11 (by decide) ?_
    refine nc_ild cx hw h1 (nc_lit (j := 0) rfl (by decide) (by decide)) rfl dX5_hearThing_12 ?_
    refine nc_callVi cx hw lk_X5_115 (c_X5_isPerson l h0 mi (mi r1 0) _ rfl) (ci := 5) rfl (lTown_is h0) rfl hl.1 rfl (Nat.le_of_ble_eq_true rfl) ⟨rfl, rfl, Nat.le_of_ble_eq_true rfl, Nat.le_of_ble_eq_true rfl⟩ dX5_hearThing_13 (fun H locs hw => ?_)
    refine lv_if_eq (tgt := 56) hx hb dX5_hearThing_16 (by decide) (fun c2 => ?_) (fun c2 => ?_)
    · have hf := nc_ifp hf c2
      refine lv_iconst (v := 0) hx hb dX5_hearThing_56 (by decide) ?_
      exact nc_rpm hret hf rfl hw dX5_hearThing_57
    · have hf := nc_ifn hf c2
      refine lv_aload_n hx hb dX5_hearThing_19 rfl (lv_at hl 0 rfl) ?_
      refine lv_aload_n hx hb dX5_hearThing_20 rfl (lv_at hl 1 rfl) ?_
      refine lv_iconst (v := 1) hx hb dX5_hearThing_21 (by decide) ?_
      refine nc_ild cx hw h1 (nc_lit (j := 1) rfl (by decide) (by decide)) rfl dX5_hearThing_22 ?_
      refine nc_callVi cx hw lk_X5_115 (c_X5_isPerson l h0 mi (mi r1 1) _ rfl) (ci := 5) rfl (lTown_is h0) rfl hl.1 rfl (Nat.le_of_ble_eq_true rfl) ⟨rfl, rfl, Nat.le_of_ble_eq_true rfl, Nat.le_of_ble_eq_true rfl⟩ dX5_hearThing_23 (fun H locs hw => ?_)
      refine lv_if_eq (tgt := 56) hx hb dX5_hearThing_26 (by decide) (fun c3 => ?_) (fun c3 => ?_)
      · have hf := nc_ifp hf c3
        refine lv_iconst (v := 0) hx hb dX5_hearThing_56 (by decide) ?_
        exact nc_rpm hret hf rfl hw dX5_hearThing_57
      · have hf := nc_ifn hf c3
        refine lv_aload_n hx hb dX5_hearThing_29 rfl (lv_at hl 0 rfl) ?_
        refine lv_aload_n hx hb dX5_hearThing_30 rfl (lv_at hl 1 rfl) ?_
        refine lv_iconst (v := 2) hx hb dX5_hearThing_31 (by decide) ?_
        refine nc_ild cx hw h1 (nc_lit (j := 2) rfl (by decide) (by decide)) rfl dX5_hearThing_32 ?_
        refine nc_callVi cx hw lk_X5_100 (c_X5_isPlace l h0 mi (mi r1 2) _ rfl) (ci := 5) rfl (lTown_is h0) rfl hl.1 rfl (Nat.le_of_ble_eq_true rfl) ⟨rfl, rfl, Nat.le_of_ble_eq_true rfl, Nat.le_of_ble_eq_true rfl⟩ dX5_hearThing_33 (fun H locs hw => ?_)
        refine lv_if_eq (tgt := 56) hx hb dX5_hearThing_36 (by decide) (fun c4 => ?_) (fun c4 => ?_)
        · have hf := nc_ifp hf c4
          refine lv_iconst (v := 0) hx hb dX5_hearThing_56 (by decide) ?_
          exact nc_rpm hret hf rfl hw dX5_hearThing_57
        · have hf := nc_ifn hf c4
          refine lv_aload_n hx hb dX5_hearThing_39 rfl (lv_at hl 0 rfl) ?_
          refine lv_aload_n hx hb dX5_hearThing_40 rfl (lv_at hl 1 rfl) ?_
          refine lv_iconst (v := 3) hx hb dX5_hearThing_41 (by decide) ?_
          refine nc_ild cx hw h1 (nc_lit (j := 3) rfl (by decide) (by decide)) rfl dX5_hearThing_42 ?_
          refine nc_callVi cx hw lk_X5_100 (c_X5_isPlace l h0 mi (mi r1 3) _ rfl) (ci := 5) rfl (lTown_is h0) rfl hl.1 rfl (Nat.le_of_ble_eq_true rfl) ⟨rfl, rfl, Nat.le_of_ble_eq_true rfl, Nat.le_of_ble_eq_true rfl⟩ dX5_hearThing_43 (fun H locs hw => ?_)
          refine lv_if_eq (tgt := 56) hx hb dX5_hearThing_46 (by decide) (fun c5 => ?_) (fun c5 => ?_)
          · have hf := nc_ifp hf c5
            refine lv_iconst (v := 0) hx hb dX5_hearThing_56 (by decide) ?_
            exact nc_rpm hret hf rfl hw dX5_hearThing_57
          · have hf := nc_ifn hf c5
            refine lv_aload_n hx hb dX5_hearThing_49 rfl (lv_at hl 1 rfl) ?_
            refine lv_iconst (v := 4) hx hb dX5_hearThing_50 (by decide) ?_
            refine nc_ild cx hw h1 (nc_lit (j := 4) rfl (by decide) (by decide)) rfl dX5_hearThing_51 ?_
            refine lv_iconst (v := 1) hx hb dX5_hearThing_52 (by decide) ?_
            refine lv_icmp_ge (tgt := 58) hx hb dX5_hearThing_53 (by decide) (fun c6 => ?_) (fun c6 => ?_)
            · have hf := nc_ifp hf c6
              refine lv_aload_n hx hb dX5_hearThing_58 rfl (lv_at hl 0 rfl) ?_
              refine gr_X5_19 cx hw (lTown_is h0) (lTown_goods h0) (lTown_goods_L h0) dX5_hearThing_59 ?_
              refine lv_aload_n hx hb dX5_hearThing_62 rfl (lv_at hl 0 rfl) ?_
              refine gi_X5_55 cx hw (lTown_is h0) dX5_hearThing_63 ?_
              obtain ⟨j7, ej7, ij7, lj7, hf⟩ := nc_ix hf
              refine nc_ald cx hw (by decide) (lTown_goods_L h0) ij7 ej7 ((lTown_goods_E h0 j7 lj7)).1 (lThing_is ((lTown_goods_E h0 j7 lj7)).2) dX5_hearThing_66 ?_
              refine lv_astore_n (lv' := [(2, .ref (o + 11 + j7)), (0, .ref o), (1, .ref r1)]) hx hb dX5_hearThing_67 rfl hl (by decide) rfl (fun ls hl => ?_)
              refine lv_aload_n hx hb dX5_hearThing_68 rfl (lv_at hl 0 rfl) ?_
              refine lv_aload_n hx hb dX5_hearThing_69 rfl (lv_at hl 2 rfl) ?_
              refine lv_iconst (v := 0) hx hb dX5_hearThing_70 (by decide) ?_
              refine nc_ild cx hw h1 (nc_lit (j := 0) rfl (by decide) (by decide)) rfl dX5_hearThing_71 ?_
              refine pi_X5_118 cx hw (lThing_is ((lTown_goods_E h0 j7 lj7)).2) dX5_hearThing_72 (fun mi8 H locs emi8 hw => ?_)
              have hf := nc_let_at hf emi8
              refine lv_aload_n hx hb dX5_hearThing_75 rfl (lv_at hl 0 rfl) ?_
              refine lv_aload_n hx hb dX5_hearThing_76 rfl (lv_at hl 2 rfl) ?_
              refine lv_iconst (v := 1) hx hb dX5_hearThing_77 (by decide) ?_
              refine nc_ild cx hw h1 (nc_lit (j := 1) rfl (by decide) (by decide)) rfl dX5_hearThing_78 ?_
              refine pi_X5_121 cx hw (lThing_is ((lTown_goods_E h0 j7 lj7)).2) dX5_hearThing_79 (fun mi9 H locs emi9 hw => ?_)
              have hf := nc_let_at hf emi9
              refine lv_aload_n hx hb dX5_hearThing_82 rfl (lv_at hl 0 rfl) ?_
              refine lv_aload_n hx hb dX5_hearThing_83 rfl (lv_at hl 2 rfl) ?_
              refine lv_iconst (v := 2) hx hb dX5_hearThing_84 (by decide) ?_
              refine nc_ild cx hw h1 (nc_lit (j := 2) rfl (by decide) (by decide)) rfl dX5_hearThing_85 ?_
              refine pi_X5_95 cx hw (lThing_is ((lTown_goods_E h0 j7 lj7)).2) dX5_hearThing_86 (fun mi10 H locs emi10 hw => ?_)
              have hf := nc_let_at hf emi10
              refine lv_aload_n hx hb dX5_hearThing_89 rfl (lv_at hl 0 rfl) ?_
              refine lv_aload_n hx hb dX5_hearThing_90 rfl (lv_at hl 2 rfl) ?_
              refine lv_iconst (v := 3) hx hb dX5_hearThing_91 (by decide) ?_
              refine nc_ild cx hw h1 (nc_lit (j := 3) rfl (by decide) (by decide)) rfl dX5_hearThing_92 ?_
              refine pi_X5_96 cx hw (lThing_is ((lTown_goods_E h0 j7 lj7)).2) dX5_hearThing_93 (fun mi11 H locs emi11 hw => ?_)
              have hf := nc_let_at hf emi11
              refine lv_aload_n hx hb dX5_hearThing_96 rfl (lv_at hl 0 rfl) ?_
              refine lv_aload_n hx hb dX5_hearThing_97 rfl (lv_at hl 2 rfl) ?_
              refine lv_iconst (v := 4) hx hb dX5_hearThing_98 (by decide) ?_
              refine nc_ild cx hw h1 (nc_lit (j := 4) rfl (by decide) (by decide)) rfl dX5_hearThing_99 ?_
              refine pi_X5_124 cx hw (lThing_is ((lTown_goods_E h0 j7 lj7)).2) dX5_hearThing_100 (fun mi12 H locs emi12 hw => ?_)
              have hf := nc_let_at hf emi12
              refine lv_aload_n hx hb dX5_hearThing_103 rfl (lv_at hl 0 rfl) ?_
              refine lv_aload_n hx hb dX5_hearThing_104 rfl (lv_at hl 2 rfl) ?_
              refine lv_iconst (v := 5) hx hb dX5_hearThing_105 (by decide) ?_
              refine nc_ild cx hw h1 (nc_lit (j := 5) rfl (by decide) (by decide)) rfl dX5_hearThing_106 ?_
              refine pi_X5_127 cx hw (lThing_is ((lTown_goods_E h0 j7 lj7)).2) dX5_hearThing_107 (fun mi13 H locs emi13 hw => ?_)
              have hf := nc_let_at hf emi13
              refine lv_aload_n hx hb dX5_hearThing_110 rfl (lv_at hl 0 rfl) ?_
              refine lv_aload_n hx hb dX5_hearThing_111 rfl (lv_at hl 2 rfl) ?_
              refine lv_bipush (v := 6) hx hb dX5_hearThing_112 (by decide) ?_
              refine nc_ild cx hw h1 (nc_lit (j := 6) rfl (by decide) (by decide)) rfl dX5_hearThing_114 ?_
              refine pi_X5_130 cx hw (lThing_is ((lTown_goods_E h0 j7 lj7)).2) dX5_hearThing_115 (fun mi14 H locs emi14 hw => ?_)
              have hf := nc_let_at hf emi14
              refine lv_aload_n hx hb dX5_hearThing_118 rfl (lv_at hl 0 rfl) ?_
              refine lv_aload_n hx hb dX5_hearThing_119 rfl (lv_at hl 0 rfl) ?_
              refine gi_X5_95 cx hw (lThing_is ((lTown_goods_E h0 j7 lj7)).2) dX5_hearThing_120 ?_
              refine pi_X5_97 cx hw (lThing_is ((lTown_goods_E h0 j7 lj7)).2) dX5_hearThing_123 (fun mi15 H locs emi15 hw => ?_)
              have hf := nc_let_at hf emi15
              refine lv_aload_n hx hb dX5_hearThing_126 rfl (lv_at hl 0 rfl) ?_
              refine lv_iconst (v := 0) hx hb dX5_hearThing_127 (by decide) ?_
              refine pi_X5_133 cx hw (lThing_is ((lTown_goods_E h0 j7 lj7)).2) dX5_hearThing_128 (fun mi16 H locs emi16 hw => ?_)
              have hf := nc_let_at hf emi16
              refine lv_aload_n hx hb dX5_hearThing_131 rfl (lv_at hl 0 rfl) ?_
              refine lv_bipush (v := (-9)) hx hb dX5_hearThing_132 (by decide) ?_
              refine pi_X5_136 cx hw (lThing_is ((lTown_goods_E h0 j7 lj7)).2) dX5_hearThing_134 (fun mi17 H locs emi17 hw => ?_)
              have hf := nc_let_at hf emi17
              refine lv_aload_n hx hb dX5_hearThing_137 rfl (lv_at hl 1 rfl) ?_
              refine lv_dup hx hb dX5_hearThing_138 rfl ?_
              refine gi_X5_55 cx hw (lTown_is h0) dX5_hearThing_139 ?_
              refine lv_iconst (v := 1) hx hb dX5_hearThing_142 (by decide) ?_
              refine lv_iadd hx hb dX5_hearThing_143 ?_
              refine pi_X5_55 cx hw (lTown_is h0) dX5_hearThing_144 (fun mi18 H locs emi18 hw => ?_)
              have hf := nc_let_at hf emi18
              refine lv_iconst (v := 1) hx hb dX5_hearThing_147 (by decide) ?_
              exact nc_rpm hret hf rfl hw dX5_hearThing_148
            · have hf := nc_ifn hf c6
              refine lv_iconst (v := 0) hx hb dX5_hearThing_56 (by decide) ?_
              exact nc_rpm hret hf rfl hw dX5_hearThing_57
abbrev rm_X5_hear : Room := { frames := 3, cells := 0, slots := 0, locals := 68 }
set_option maxRecDepth 100000 in
set_option maxHeartbeats 4000000 in
theorem c_X5_hear (l : Launch) {G : nc_G} {K : nc_K} {o r2 : Nat} (h0 : nc_LTown G K o) (h2 : nc_Is G K r2 (9, 7)) (mi : nc_Mem) (a1 : Int32) (res : nc_Mem × Int32) (hf : f_X5_hear mi o a1 r2 = some res) : nc_M l yX5_hear cX5_hear 3 (some .boolean) rm_X5_hear 0 0 G K K [.ref o, .int a1, .ref r2] mi res.1 (some (.int res.2)) := by
  refine nc_meet_i (by decide) (Nat.le_of_ble_eq_true rfl) ?_
  intro p e s m args below meth c Q H locs ls cx hret hw hl
  have cx : nc_C p s m args c cX5_hear 3 RX5 G := cx
  have hl : lv_has ls 3 [(0, .ref o), (1, .int a1), (2, .ref r2)] := hl
  have hx := cx.1
  have hb := cx.2.1
  unfold f_X5_hear at hf
  refine lv_iload_n hx hb dX5_hear_0 rfl (lv_at hl 1 rfl) ?_
  by_cases c1 : a1 = 110
  · have hf := nc_ifp hf c1
    refine lv_tableIn (tgt := 56) (off := 55) hx hb dX5_hear_1 (by rw [c1]; decide) (by rw [c1]; decide) (by rw [c1]; rfl) (by decide) ?_
    refine lv_aload_n hx hb dX5_hear_56 rfl (lv_at hl 0 rfl) ?_
    refine lv_aload_n hx hb dX5_hear_57 rfl (lv_at hl 2 rfl) ?_
    refine lv_iconst (v := 0) hx hb dX5_hear_58 (by decide) ?_
    refine nc_ild cx hw h2 (nc_lit (j := 0) rfl (by decide) (by decide)) rfl dX5_hear_59 ?_
    obtain ⟨q2, hq2, hf⟩ := nc_bi hf
    refine nc_callVi cx hw lk_X5_61 (c_X5_hearPlaces l h0 mi (mi r2 0) q2 hq2) (ci := 5) rfl (lTown_is h0) rfl hl.1 rfl (Nat.le_of_ble_eq_true rfl) ⟨rfl, rfl, Nat.le_of_ble_eq_true rfl, Nat.le_of_ble_eq_true rfl⟩ dX5_hear_60 (fun H locs hw => ?_)
    obtain ⟨hz, hf⟩ := nc_zb_of hf
    exact nc_rpm hret hf hz hw dX5_hear_63
  · have hf := nc_ifn hf c1
    by_cases c3 : a1 = 111
    · have hf := nc_ifp hf c3
      refine lv_tableIn (tgt := 90) (off := 89) hx hb dX5_hear_1 (by rw [c3]; decide) (by rw [c3]; decide) (by rw [c3]; rfl) (by decide) ?_
      refine lv_iconst (v := 0) hx hb dX5_hear_90 (by decide) ?_
      exact nc_rpm hret hf rfl hw dX5_hear_91
    · have hf := nc_ifn hf c3
      by_cases c4 : a1 = 112
      · have hf := nc_ifp hf c4
        refine lv_tableIn (tgt := 78) (off := 77) hx hb dX5_hear_1 (by rw [c4]; decide) (by rw [c4]; decide) (by rw [c4]; rfl) (by decide) ?_
        refine lv_aload_n hx hb dX5_hear_78 rfl (lv_at hl 0 rfl) ?_
        refine lv_aload_n hx hb dX5_hear_79 rfl (lv_at hl 2 rfl) ?_
        obtain ⟨q5, hq5, hf⟩ := nc_bi hf
        refine nc_callVi cx hw lk_X5_69 (c_X5_hearPerson l h0 h2 mi  q5 hq5) (ci := 5) rfl (lTown_is h0) rfl hl.1 rfl (Nat.le_of_ble_eq_true rfl) ⟨rfl, rfl, Nat.le_of_ble_eq_true rfl, Nat.le_of_ble_eq_true rfl⟩ dX5_hear_80 (fun H locs hw => ?_)
        obtain ⟨hz, hf⟩ := nc_zb_of hf
        exact nc_rpm hret hf hz hw dX5_hear_83
      · have hf := nc_ifn hf c4
        by_cases c6 : a1 = 113
        · have hf := nc_ifp hf c6
          refine lv_tableIn (tgt := 90) (off := 89) hx hb dX5_hear_1 (by rw [c6]; decide) (by rw [c6]; decide) (by rw [c6]; rfl) (by decide) ?_
          refine lv_iconst (v := 0) hx hb dX5_hear_90 (by decide) ?_
          exact nc_rpm hret hf rfl hw dX5_hear_91
        · have hf := nc_ifn hf c6
          by_cases c7 : a1 = 114
          · have hf := nc_ifp hf c7
            refine lv_tableIn (tgt := 90) (off := 89) hx hb dX5_hear_1 (by rw [c7]; decide) (by rw [c7]; decide) (by rw [c7]; rfl) (by decide) ?_
            refine lv_iconst (v := 0) hx hb dX5_hear_90 (by decide) ?_
            exact nc_rpm hret hf rfl hw dX5_hear_91
          · have hf := nc_ifn hf c7
            by_cases c8 : a1 = 115
            · have hf := nc_ifp hf c8
              refine lv_tableIn (tgt := 90) (off := 89) hx hb dX5_hear_1 (by rw [c8]; decide) (by rw [c8]; decide) (by rw [c8]; rfl) (by decide) ?_
              refine lv_iconst (v := 0) hx hb dX5_hear_90 (by decide) ?_
              exact nc_rpm hret hf rfl hw dX5_hear_91
            · have hf := nc_ifn hf c8
              by_cases c9 : a1 = 116
              · have hf := nc_ifp hf c9
                refine lv_tableIn (tgt := 84) (off := 83) hx hb dX5_hear_1 (by rw [c9]; decide) (by rw [c9]; decide) (by rw [c9]; rfl) (by decide) ?_
                refine lv_aload_n hx hb dX5_hear_84 rfl (lv_at hl 0 rfl) ?_
                refine lv_aload_n hx hb dX5_hear_85 rfl (lv_at hl 2 rfl) ?_
                obtain ⟨q10, hq10, hf⟩ := nc_bi hf
                refine nc_callVi cx hw lk_X5_73 (c_X5_hearThing l h0 h2 mi  q10 hq10) (ci := 5) rfl (lTown_is h0) rfl hl.1 rfl (Nat.le_of_ble_eq_true rfl) ⟨rfl, rfl, Nat.le_of_ble_eq_true rfl, Nat.le_of_ble_eq_true rfl⟩ dX5_hear_86 (fun H locs hw => ?_)
                obtain ⟨hz, hf⟩ := nc_zb_of hf
                exact nc_rpm hret hf hz hw dX5_hear_89
              · have hf := nc_ifn hf c9
                by_cases c11 : a1 = 117
                · have hf := nc_ifp hf c11
                  refine lv_tableIn (tgt := 90) (off := 89) hx hb dX5_hear_1 (by rw [c11]; decide) (by rw [c11]; decide) (by rw [c11]; rfl) (by decide) ?_
                  refine lv_iconst (v := 0) hx hb dX5_hear_90 (by decide) ?_
                  exact nc_rpm hret hf rfl hw dX5_hear_91
                · have hf := nc_ifn hf c11
                  by_cases c12 : a1 = 118
                  · have hf := nc_ifp hf c12
                    refine lv_tableIn (tgt := 90) (off := 89) hx hb dX5_hear_1 (by rw [c12]; decide) (by rw [c12]; decide) (by rw [c12]; rfl) (by decide) ?_
                    refine lv_iconst (v := 0) hx hb dX5_hear_90 (by decide) ?_
                    exact nc_rpm hret hf rfl hw dX5_hear_91
                  · have hf := nc_ifn hf c12
                    by_cases c13 : a1 = 119
                    · have hf := nc_ifp hf c13
                      refine lv_tableIn (tgt := 64) (off := 63) hx hb dX5_hear_1 (by rw [c13]; decide) (by rw [c13]; decide) (by rw [c13]; rfl) (by decide) ?_
                      refine lv_aload_n hx hb dX5_hear_64 rfl (lv_at hl 0 rfl) ?_
                      refine lv_aload_n hx hb dX5_hear_65 rfl (lv_at hl 2 rfl) ?_
                      refine lv_iconst (v := 0) hx hb dX5_hear_66 (by decide) ?_
                      refine nc_ild cx hw h2 (nc_lit (j := 0) rfl (by decide) (by decide)) rfl dX5_hear_67 ?_
                      refine lv_aload_n hx hb dX5_hear_68 rfl (lv_at hl 2 rfl) ?_
                      refine lv_iconst (v := 1) hx hb dX5_hear_69 (by decide) ?_
                      refine nc_ild cx hw h2 (nc_lit (j := 1) rfl (by decide) (by decide)) rfl dX5_hear_70 ?_
                      refine lv_aload_n hx hb dX5_hear_71 rfl (lv_at hl 2 rfl) ?_
                      refine lv_iconst (v := 2) hx hb dX5_hear_72 (by decide) ?_
                      refine nc_ild cx hw h2 (nc_lit (j := 2) rfl (by decide) (by decide)) rfl dX5_hear_73 ?_
                      obtain ⟨q14, hq14, hf⟩ := nc_bi hf
                      refine nc_callVi cx hw lk_X5_65 (c_X5_hearWay l h0 mi (mi r2 0) (mi r2 1) (mi r2 2) q14 hq14) (ci := 5) rfl (lTown_is h0) rfl hl.1 rfl (Nat.le_of_ble_eq_true rfl) ⟨rfl, rfl, Nat.le_of_ble_eq_true rfl, Nat.le_of_ble_eq_true rfl⟩ dX5_hear_74 (fun H locs hw => ?_)
                      obtain ⟨hz, hf⟩ := nc_zb_of hf
                      exact nc_rpm hret hf hz hw dX5_hear_77
                    · have hf := nc_ifn hf c13
                      refine lv_tableOut (tgt := 90) hx hb dX5_hear_1 (by have nc1 := lv_neT (a := 110) c1 (by decide); have nc3 := lv_neT (a := 111) c3 (by decide); have nc4 := lv_neT (a := 112) c4 (by decide); have nc6 := lv_neT (a := 113) c6 (by decide); have nc7 := lv_neT (a := 114) c7 (by decide); have nc8 := lv_neT (a := 115) c8 (by decide); have nc9 := lv_neT (a := 116) c9 (by decide); have nc11 := lv_neT (a := 117) c11 (by decide); have nc12 := lv_neT (a := 118) c12 (by decide); have nc13 := lv_neT (a := 119) c13 (by decide); omega) (by decide) ?_
                      refine lv_iconst (v := 0) hx hb dX5_hear_90 (by decide) ?_
                      exact nc_rpm hret hf rfl hw dX5_hear_91
