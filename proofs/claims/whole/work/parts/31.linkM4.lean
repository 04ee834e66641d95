abbrev rm_X8_judged : Room := { frames := 4, cells := 0, slots := 0, locals := 101 }
set_option maxRecDepth 100000 in
set_option maxHeartbeats 4000000 in
theorem c_X8_judged (l : Launch) {G : nc_G} {K : nc_K} {o : Nat} (h0 : nc_LModel G K o) (mi : nc_Mem)  (res : nc_Mem × Int32) (hf : f_X8_judged mi o = some res) : nc_M l yX8_judged cX8_judged 4 (some .int) rm_X8_judged 0 0 G K K [.ref o] mi res.1 (some (.int res.2)) := by
  refine nc_meet_i (by decide) (Nat.le_of_ble_eq_true rfl) ?_
  intro p e s m args below meth c Q H locs ls cx hret hw hl
  have cx : nc_C p s m args c cX8_judged 4 RX8 G := cx
  have hl : lv_has ls 4 [(0, .ref o)] := hl
  have hx := cx.1
  have hb := cx.2.1
  unfold f_X8_judged at hf
  refine lv_aload_n hx hb dX8_judged_0 rfl (lv_at hl 0 rfl) ?_
  obtain ⟨q1, hq1, hf⟩ := nc_bi hf
  refine nc_callVv cx hw lk_X8_139 (c_X8_findFar l h0 mi  q1 hq1) (ci := 8) rfl (lModel_is h0) rfl hl.1 rfl (Nat.le_of_ble_eq_true rfl) ⟨rfl, rfl, Nat.le_of_ble_eq_true rfl, Nat.le_of_ble_eq_true rfl⟩ dX8_judged_1 (fun H locs hw => ?_)
  refine lv_iconst (v := 0) hx hb dX8_judged_4 (by decide) ?_
  refine lv_istore_n (lv' := [(1, .int 0), (0, .ref o)]) hx hb dX8_judged_5 rfl hl (by decide) rfl (fun ls hl => ?_)
  refine lv_iconst (v := 0) hx hb dX8_judged_6 (by decide) ?_
  refine lv_istore_n (lv' := [(2, .int 0), (1, .int 0), (0, .ref o)]) hx hb dX8_judged_7 rfl hl (by decide) rfl (fun ls hl => ?_)
  obtain ⟨k2, ek2, hf⟩ := nc_jn_of hf
  have hk2 : k2 = some res → ∀ (H : Heap) (locs : List Loc) (ls : Array Slot), nc_W G K q1 H locs → lv_has ls 4 [(0, .ref o)] → W p l e rm_X8_judged s m args below meth c H locs 0 0 Q (F0 m 80 ls []) := by
    intro hf H locs ls hw hl
    have hf := (ek2).symm.trans hf
    refine lv_aload_n hx hb dX8_judged_80 rfl (lv_at hl 0 rfl) ?_
    refine gi_X8_240 cx hw (lModel_is h0) dX8_judged_81 ?_
    refine lv_aload_n hx hb dX8_judged_84 rfl (lv_at hl 0 rfl) ?_
    refine gi_X8_68 cx hw (lModel_is h0) dX8_judged_85 ?_
    refine lv_icmp_le (tgt := 98) hx hb dX8_judged_88 (by decide) (fun c3 => ?_) (fun c3 => ?_)
    · have hf := nc_ifp hf c3
      refine lv_bipush (v := (-9)) hx hb dX8_judged_98 (by decide) ?_
      exact nc_rpm hret hf rfl hw dX8_judged_100
    · have hf := nc_ifn hf c3
      refine lv_aload_n hx hb dX8_judged_91 rfl (lv_at hl 0 rfl) ?_
      refine gi_X8_68 cx hw (lModel_is h0) dX8_judged_92 ?_
      refine lv_goto (tgt := 100) hx hb dX8_judged_95 (by decide) ?_
      exact nc_rpm hret hf rfl hw dX8_judged_100
  refine nc_loop_w (P := fun κ : Int32 → Int32 → Option (nc_Mem × Int32) => ∀ (x4 : Int32) (x5 : Int32), κ x4 x5 = some res → ∀ (H : Heap) (locs : List Loc) (ls : Array Slot), nc_W G K q1 H locs → lv_has ls 4 [(0, .ref o), (1, .int x4), (2, .int x5)] → W p l e rm_X8_judged s m args below meth c H locs 0 0 Q (F0 m 8 ls [])) ?_ ?_ 200 _ _ hf _ _ _ hw (lv_sub hl [2, 1, 0] rfl)
  · intro x4 x5 hf; exact absurd hf (by intro q; cases q)
  · intro rc6 ihrc6 x4 x5 hf H locs ls hw hl
    unfold B_X8_judged_8 at hf
    refine lv_iload_n hx hb dX8_judged_8 rfl (lv_at hl 2 rfl) ?_
    refine lv_aload_n hx hb dX8_judged_9 rfl (lv_at hl 0 rfl) ?_
    refine gi_X8_68 cx hw (lModel_is h0) dX8_judged_10 ?_
    refine lv_icmp_ge (tgt := 80) hx hb dX8_judged_13 (by decide) (fun c7 => ?_) (fun c7 => ?_)
    · have hf := nc_ifp hf c7
      exact hk2 hf _ _ _ hw (lv_sub hl [0] rfl)
    · have hf := nc_ifn hf c7
      refine lv_iload_n hx hb dX8_judged_16 rfl (lv_at hl 2 rfl) ?_
      refine lv_aload_n hx hb dX8_judged_17 rfl (lv_at hl 0 rfl) ?_
      refine gi_X8_240 cx hw (lModel_is h0) dX8_judged_18 ?_
      refine lv_icmp_ne (tgt := 26) hx hb dX8_judged_21 (by decide) (fun c8 => ?_) (fun c8 => ?_)
      · have hf := nc_ifn hf c8
        refine lv_aload_n hx hb dX8_judged_26 rfl (lv_at hl 0 rfl) ?_
        refine gr_X8_13 cx hw (lModel_is h0) (lModel_told h0) (lModel_told_L h0) dX8_judged_27 ?_
        refine lv_iload_n hx hb dX8_judged_30 rfl (lv_at hl 2 rfl) ?_
        obtain ⟨j9, ej9, ij9, lj9, hf⟩ := nc_ix hf
        refine nc_ild cx hw (lModel_told_L h0) ij9 ej9 dX8_judged_31 ?_
        refine lv_topi (fun x10 ex10 => ?_)
        have hf := nc_let_at hf ex10
        refine lv_istore_n (lv' := [(3, .int x10), (0, .ref o), (1, .int x4), (2, .int x5)]) hx hb dX8_judged_32 rfl hl (by decide) rfl (fun ls hl => ?_)
        refine lv_iload_n hx hb dX8_judged_33 rfl (lv_at hl 0 rfl) ?_
        refine lv_bipush (v := 9) hx hb dX8_judged_34 (by decide) ?_
        refine lv_icmp_eq (tgt := 74) hx hb dX8_judged_36 (by decide) (fun c11 => ?_) (fun c11 => ?_)
        · have hf := nc_ifp hf c11
          obtain ⟨x12, ex12⟩ : ∃ y : Int32, y = x5 + 1 := ⟨_, rfl⟩
          have hf := nc_let_at hf ex12
          refine lv_iinc (v := x12) (lv' := [(2, .int x12), (3, .int x10), (0, .ref o), (1, .int x4)]) hx hb dX8_judged_74 hl (k := 3) rfl (by rw [ex12]; rfl) (by decide) rfl (fun ls hl => ?_)
          refine lv_goto (tgt := 8) hx hb dX8_judged_77 (by decide) ?_
          exact ihrc6 _ _ hf _ _ _ hw (lv_sub hl [2, 3, 0] rfl)
        · have hf := nc_ifn hf c11
          refine lv_aload_n hx hb dX8_judged_39 rfl (lv_at hl 1 rfl) ?_
          refine lv_iload_n hx hb dX8_judged_40 rfl (lv_at hl 0 rfl) ?_
          obtain ⟨q13, hq13, hf⟩ := nc_bi hf
          refine nc_callVi cx hw lk_X8_108 (c_X8_isPerson l h0 q1 x10 q13 hq13) (ci := 8) rfl (lModel_is h0) rfl hl.1 rfl (Nat.le_of_ble_eq_true rfl) ⟨rfl, rfl, Nat.le_of_ble_eq_true rfl, Nat.le_of_ble_eq_true rfl⟩ dX8_judged_41 (fun H locs hw => ?_)
          refine lv_if_eq (tgt := 66) hx hb dX8_judged_44 (by decide) (fun c14 => ?_) (fun c14 => ?_)
          · have hf := nc_ifp hf c14
            refine lv_iload_n hx hb dX8_judged_66 rfl (lv_at hl 3 rfl) ?_
            exact nc_rpm hret hf rfl hw dX8_judged_67
          · have hf := nc_ifn hf c14
            refine lv_iload_n hx hb dX8_judged_47 rfl (lv_at hl 2 rfl) ?_
            refine lv_iload_n hx hb dX8_judged_48 rfl (lv_at hl 0 rfl) ?_
            refine lv_ishr hx hb dX8_judged_49 ?_
            refine lv_iconst (v := 1) hx hb dX8_judged_50 (by decide) ?_
            refine lv_iand hx hb dX8_judged_51 ?_
            refine lv_if_ne (tgt := 66) hx hb dX8_judged_52 (by decide) (fun c15 => ?_) (fun c15 => ?_)
            · have hf := nc_ifn hf c15
              refine lv_iload_n hx hb dX8_judged_66 rfl (lv_at hl 3 rfl) ?_
              exact nc_rpm hret hf rfl hw dX8_judged_67
            · have hf := nc_ifp hf c15
              refine lv_aload_n hx hb dX8_judged_55 rfl (lv_at hl 1 rfl) ?_
              refine lv_iload_n hx hb dX8_judged_56 rfl (lv_at hl 0 rfl) ?_
              refine lv_iload_n hx hb dX8_judged_57 rfl (lv_at hl 3 rfl) ?_
              obtain ⟨q16, hq16, hf⟩ := nc_bi hf
              refine nc_callVi cx hw lk_X8_202 (c_X8_roundOf l h0 q1 x10 x5 q16 hq16) (ci := 8) rfl (lModel_is h0) rfl hl.1 rfl (Nat.le_of_ble_eq_true rfl) ⟨rfl, rfl, Nat.le_of_ble_eq_true rfl, Nat.le_of_ble_eq_true rfl⟩ dX8_judged_58 (fun H locs hw => ?_)
              refine lv_bipush (v := (-9)) hx hb dX8_judged_61 (by decide) ?_
              refine lv_icmp_ne (tgt := 68) hx hb dX8_judged_63 (by decide) (fun c17 => ?_) (fun c17 => ?_)
              · have hf := nc_ifn hf c17
                refine lv_iload_n hx hb dX8_judged_68 rfl (lv_at hl 2 rfl) ?_
                refine lv_iconst (v := 1) hx hb dX8_judged_69 (by decide) ?_
                refine lv_iload_n hx hb dX8_judged_70 rfl (lv_at hl 0 rfl) ?_
                refine lv_ishl hx hb dX8_judged_71 ?_
                refine lv_ior hx hb dX8_judged_72 ?_
                refine lv_topi (fun x18 ex18 => ?_)
                have hf := nc_let_at hf ex18
                refine lv_istore_n (lv' := [(1, .int x18), (3, .int x10), (0, .ref o), (2, .int x5)]) hx hb dX8_judged_73 rfl hl (by decide) rfl (fun ls hl => ?_)
                obtain ⟨x19, ex19⟩ : ∃ y : Int32, y = x5 + 1 := ⟨_, rfl⟩
                have hf := nc_let_at hf ex19
                refine lv_iinc (v := x19) (lv' := [(2, .int x19), (1, .int x18), (3, .int x10), (0, .ref o)]) hx hb dX8_judged_74 hl (k := 3) rfl (by rw [ex19]; rfl) (by decide) rfl (fun ls hl => ?_)
                refine lv_goto (tgt := 8) hx hb dX8_judged_77 (by decide) ?_
                exact ihrc6 _ _ hf _ _ _ hw (lv_sub hl [3, 1, 0] rfl)
              · have hf := nc_ifp hf c17
                refine lv_iload_n hx hb dX8_judged_66 rfl (lv_at hl 3 rfl) ?_
                exact nc_rpm hret hf rfl hw dX8_judged_67
      · have hf := nc_ifp hf c8
        refine lv_iload_n hx hb dX8_judged_24 rfl (lv_at hl 2 rfl) ?_
        exact nc_rpm hret hf rfl hw dX8_judged_25
abbrev rm_X8_judge : Room := { frames := 5, cells := 0, slots := 0, locals := 124 }
set_option maxRecDepth 100000 in
set_option maxHeartbeats 4000000 in
theorem c_X8_judge (l : Launch) {G : nc_G} {K : nc_K} {o : Nat} (h0 : nc_LModel G K o) (mi : nc_Mem)  (res : nc_Mem × Int32) (hf : f_X8_judge mi o = some res) : nc_M l yX8_judge cX8_judge 2 (some .int) rm_X8_judge 0 0 G K K [.ref o] mi res.1 (some (.int res.2)) := by
  refine nc_meet_i (by decide) (Nat.le_of_ble_eq_true rfl) ?_
  intro p e s m args below meth c Q H locs ls cx hret hw hl
  have cx : nc_C p s m args c cX8_judge 2 RX8 G := cx
  have hl : lv_has ls 2 [(0, .ref o)] := hl
  have hx := cx.1
  have hb := cx.2.1
  unfold f_X8_judge at hf
  refine lv_aload_n hx hb dX8_judge_0 rfl (lv_at hl 0 rfl) ?_
  obtain ⟨q1, hq1, hf⟩ := nc_bi hf
  refine nc_callVi cx hw lk_X8_243 (c_X8_judged l h0 mi  q1 hq1) (ci := 8) rfl (lModel_is h0) rfl hl.1 rfl (Nat.le_of_ble_eq_true rfl) ⟨rfl, rfl, Nat.le_of_ble_eq_true rfl, Nat.le_of_ble_eq_true rfl⟩ dX8_judge_1 (fun H locs hw => ?_)
  refine lv_istore_n (lv' := [(1, .int q1.2), (0, .ref o)]) hx hb dX8_judge_4 rfl hl (by decide) rfl (fun ls hl => ?_)
  refine lv_aload_n hx hb dX8_judge_5 rfl (lv_at hl 1 rfl) ?_
  refine lv_iconst (v := 0) hx hb dX8_judge_6 (by decide) ?_
  refine pi_X8_240 cx hw (lModel_is h0) dX8_judge_7 (fun mi2 H locs emi2 hw => ?_)
  have hf := nc_let_at hf emi2
  refine lv_iload_n hx hb dX8_judge_10 rfl (lv_at hl 0 rfl) ?_
  exact nc_rpm hret hf rfl hw dX8_judge_11
abbrev rm_X8_count : Room := { frames := 1, cells := 0, slots := 0, locals := 22 }
set_option maxRecDepth 100000 in
set_option maxHeartbeats 4000000 in
theorem c_X8_count (l : Launch) {G : nc_G} {K : nc_K} {o : Nat} (h0 : nc_LModel G K o) (mi : nc_Mem) (a1 : Int32) (res : Int32) (hf : f_X8_count mi o a1 = some res) : nc_M l yX8_count cX8_count 4 (some .int) rm_X8_count 0 0 G K K [.ref o, .int a1] mi mi (some (.int res)) := by
  refine nc_meet_i (by decide) (Nat.le_of_ble_eq_true rfl) ?_
  intro p e s m args below meth c Q H locs ls cx hret hw hl
  have cx : nc_C p s m args c cX8_count 4 RX8 G := cx
  have hl : lv_has ls 4 [(0, .ref o), (1, .int a1)] := hl
  have hx := cx.1
  have hb := cx.2.1
  unfold f_X8_count at hf
  refine lv_iconst (v := 0) hx hb dX8_count_0 (by decide) ?_
  refine lv_istore_n (lv' := [(2, .int 0), (0, .ref o), (1, .int a1)]) hx hb dX8_count_1 rfl hl (by decide) rfl (fun ls hl => ?_)
  refine lv_iload_n hx hb dX8_count_2 rfl (lv_at hl 2 rfl) ?_
  by_cases c1 : a1 = 0
  · have hf := nc_ifp hf c1
    refine lv_tableIn (tgt := 40) (off := 37) hx hb dX8_count_3 (by rw [c1]; decide) (by rw [c1]; decide) (by rw [c1]; rfl) (by decide) ?_
    refine lv_aload_n hx hb dX8_count_40 rfl (lv_at hl 1 rfl) ?_
    refine gi_X8_19 cx hw (lModel_is h0) dX8_count_41 ?_
    exact nc_rpp hret hf rfl hw dX8_count_44
  · have hf := nc_ifn hf c1
    by_cases c2 : a1 = 1
    · have hf := nc_ifp hf c2
      refine lv_tableIn (tgt := 45) (off := 42) hx hb dX8_count_3 (by rw [c2]; decide) (by rw [c2]; decide) (by rw [c2]; rfl) (by decide) ?_
      refine lv_aload_n hx hb dX8_count_45 rfl (lv_at hl 1 rfl) ?_
      refine gi_X8_65 cx hw (lModel_is h0) dX8_count_46 ?_
      exact nc_rpp hret hf rfl hw dX8_count_49
    · have hf := nc_ifn hf c2
      by_cases c3 : a1 = 2
      · have hf := nc_ifp hf c3
        refine lv_tableIn (tgt := 50) (off := 47) hx hb dX8_count_3 (by rw [c3]; decide) (by rw [c3]; decide) (by rw [c3]; rfl) (by decide) ?_
        refine lv_aload_n hx hb dX8_count_50 rfl (lv_at hl 1 rfl) ?_
        refine gi_X8_68 cx hw (lModel_is h0) dX8_count_51 ?_
        exact nc_rpp hret hf rfl hw dX8_count_54
      · have hf := nc_ifn hf c3
        by_cases c4 : a1 = 3
        · have hf := nc_ifp hf c4
          refine lv_tableIn (tgt := 55) (off := 52) hx hb dX8_count_3 (by rw [c4]; decide) (by rw [c4]; decide) (by rw [c4]; rfl) (by decide) ?_
          refine lv_iconst (v := 0) hx hb dX8_count_55 (by decide) ?_
          refine lv_istore_n (lv' := [(3, .int 0), (2, .int 0), (0, .ref o), (1, .int a1)]) hx hb dX8_count_56 rfl hl (by decide) rfl (fun ls hl => ?_)
          refine nc_loop_w (P := fun κ : Int32 → Int32 → Option (Int32) => ∀ (x5 : Int32) (x6 : Int32), κ x5 x6 = some res → ∀ (H : Heap) (locs : List Loc) (ls : Array Slot), nc_W G K mi H locs → lv_has ls 4 [(0, .ref o), (2, .int x5), (3, .int x6)] → W p l e rm_X8_count s m args below meth c H locs 0 0 Q (F0 m 57 ls [])) ?_ ?_ 200 _ _ hf _ _ _ hw (lv_sub hl [2, 1, 0] rfl)
          · intro x5 x6 hf; exact absurd hf (by intro q; cases q)
          · intro rc7 ihrc7 x5 x6 hf H locs ls hw hl
            unfold B_X8_count_57 at hf
            refine lv_iload_n hx hb dX8_count_57 rfl (lv_at hl 2 rfl) ?_
            refine lv_aload_n hx hb dX8_count_58 rfl (lv_at hl 0 rfl) ?_
            refine gi_X8_68 cx hw (lModel_is h0) dX8_count_59 ?_
            refine lv_icmp_ge (tgt := 93) hx hb dX8_count_62 (by decide) (fun c8 => ?_) (fun c8 => ?_)
            · have hf := nc_ifp hf c8
              refine lv_iload_n hx hb dX8_count_93 rfl (lv_at hl 1 rfl) ?_
              exact nc_rpp hret hf rfl hw dX8_count_94
            · have hf := nc_ifn hf c8
              refine lv_iload_n hx hb dX8_count_65 rfl (lv_at hl 1 rfl) ?_
              refine lv_aload_n hx hb dX8_count_66 rfl (lv_at hl 0 rfl) ?_
              refine gr_X8_31 cx hw (lModel_is h0) (lModel_thing h0) ((lModel_thing_L h0)).1 dX8_count_67 ?_
              refine lv_iload_n hx hb dX8_count_70 rfl (lv_at hl 2 rfl) ?_
              obtain ⟨j9, ej9, ij9, lj9, hf⟩ := nc_ix hf
              refine nc_ald cx hw (by decide) ((lModel_thing_L h0)).1 ij9 ej9 (((lModel_thing_L h0)).2 j9 lj9).1 (((lModel_thing_L h0)).2 j9 lj9).2 dX8_count_71 ?_
              refine lv_bipush (v := 7) hx hb dX8_count_72 (by decide) ?_
              refine nc_ild cx hw (((lModel_thing_L h0)).2 j9 lj9).2 (nc_lit (j := 7) rfl (by decide) (by decide)) rfl dX8_count_74 ?_
              refine lv_bipush (v := 10) hx hb dX8_count_75 (by decide) ?_
              refine lv_icmp_lt (tgt := 84) hx hb dX8_count_77 (by decide) (fun c10 => ?_) (fun c10 => ?_)
              · have hf := nc_ifp hf c10
                refine lv_iconst (v := 0) hx hb dX8_count_84 (by decide) ?_
                refine lv_iadd hx hb dX8_count_85 ?_
                refine lv_topi (fun x11 ex11 => ?_)
                have hf := nc_let_at hf ex11
                refine lv_istore_n (lv' := [(2, .int x11), (0, .ref o), (3, .int x6)]) hx hb dX8_count_86 rfl hl (by decide) rfl (fun ls hl => ?_)
                obtain ⟨x12, ex12⟩ : ∃ y : Int32, y = x6 + 1 := ⟨_, rfl⟩
                have hf := nc_let_at hf ex12
                refine lv_iinc (v := x12) (lv' := [(3, .int x12), (2, .int x11), (0, .ref o)]) hx hb dX8_count_87 hl (k := 2) rfl (by rw [ex12]; rfl) (by decide) rfl (fun ls hl => ?_)
                refine lv_goto (tgt := 57) hx hb dX8_count_90 (by decide) ?_
                exact ihrc7 _ _ hf _ _ _ hw (lv_sub hl [2, 1, 0] rfl)
              · have hf := nc_ifn hf c10
                refine lv_iconst (v := 1) hx hb dX8_count_80 (by decide) ?_
                refine lv_goto (tgt := 85) hx hb dX8_count_81 (by decide) ?_
                refine lv_iadd hx hb dX8_count_85 ?_
                refine lv_topi (fun x13 ex13 => ?_)
                have hf := nc_let_at hf ex13
                refine lv_istore_n (lv' := [(2, .int x13), (0, .ref o), (3, .int x6)]) hx hb dX8_count_86 rfl hl (by decide) rfl (fun ls hl => ?_)
                obtain ⟨x14, ex14⟩ : ∃ y : Int32, y = x6 + 1 := ⟨_, rfl⟩
                have hf := nc_let_at hf ex14
                refine lv_iinc (v := x14) (lv' := [(3, .int x14), (2, .int x13), (0, .ref o)]) hx hb dX8_count_87 hl (k := 2) rfl (by rw [ex14]; rfl) (by decide) rfl (fun ls hl => ?_)
                refine lv_goto (tgt := 57) hx hb dX8_count_90 (by decide) ?_
                exact ihrc7 _ _ hf _ _ _ hw (lv_sub hl [2, 1, 0] rfl)
        · have hf := nc_ifn hf c4
          by_cases c15 : a1 = 4
          · have hf := nc_ifp hf c15
            refine lv_tableIn (tgt := 95) (off := 92) hx hb dX8_count_3 (by rw [c15]; decide) (by rw [c15]; decide) (by rw [c15]; rfl) (by decide) ?_
            refine lv_aload_n hx hb dX8_count_95 rfl (lv_at hl 1 rfl) ?_
            refine gi_X8_240 cx hw (lModel_is h0) dX8_count_96 ?_
            exact nc_rpp hret hf rfl hw dX8_count_99
          · have hf := nc_ifn hf c15
            by_cases c16 : a1 = 5
            · have hf := nc_ifp hf c16
              refine lv_tableIn (tgt := 100) (off := 97) hx hb dX8_count_3 (by rw [c16]; decide) (by rw [c16]; decide) (by rw [c16]; rfl) (by decide) ?_
              refine lv_aload_n hx hb dX8_count_100 rfl (lv_at hl 1 rfl) ?_
              refine gi_X8_75 cx hw (lModel_is h0) dX8_count_101 ?_
              exact nc_rpp hret hf rfl hw dX8_count_104
            · have hf := nc_ifn hf c16
              refine lv_tableOut (tgt := 105) hx hb dX8_count_3 (by have nc1 := lv_neT (a := 0) c1 (by decide); have nc2 := lv_neT (a := 1) c2 (by decide); have nc3 := lv_neT (a := 2) c3 (by decide); have nc4 := lv_neT (a := 3) c4 (by decide); have nc15 := lv_neT (a := 4) c15 (by decide); have nc16 := lv_neT (a := 5) c16 (by decide); omega) (by decide) ?_
              refine lv_iload_n hx hb dX8_count_105 rfl (lv_at hl 2 rfl) ?_
              refine lv_bipush (v := 11) hx hb dX8_count_106 (by decide) ?_
              refine lv_bipush (v := 16) hx hb dX8_count_108 (by decide) ?_
              refine nc_callSi cx hw lk_X8_61 (c_X8_in l  mi a1 11 16 _ rfl) rfl hl.1 rfl (Nat.le_of_ble_eq_true rfl) ⟨rfl, rfl, Nat.le_of_ble_eq_true rfl, Nat.le_of_ble_eq_true rfl⟩ dX8_count_110 (fun H locs hw => ?_)
              refine lv_if_eq (tgt := 128) hx hb dX8_count_113 (by decide) (fun c17 => ?_) (fun c17 => ?_)
              · have hf := nc_ifp hf c17
                refine lv_bipush (v := (-9)) hx hb dX8_count_128 (by decide) ?_
                exact nc_rpp hret hf rfl hw dX8_count_130
              · have hf := nc_ifn hf c17
                refine lv_aload_n hx hb dX8_count_116 rfl (lv_at hl 1 rfl) ?_
                refine gr_X8_16 cx hw (lModel_is h0) (lModel_refused h0) (lModel_refused_L h0) dX8_count_117 ?_
                refine lv_iload_n hx hb dX8_count_120 rfl (lv_at hl 2 rfl) ?_
                refine lv_bipush (v := 10) hx hb dX8_count_121 (by decide) ?_
                refine lv_isub hx hb dX8_count_123 ?_
                obtain ⟨j18, ej18, ij18, lj18, hf⟩ := nc_ix hf
                refine nc_ild cx hw (lModel_refused_L h0) ij18 ej18 dX8_count_124 ?_
                refine lv_goto (tgt := 130) hx hb dX8_count_125 (by decide) ?_
                exact nc_rpp hret hf rfl hw dX8_count_130
