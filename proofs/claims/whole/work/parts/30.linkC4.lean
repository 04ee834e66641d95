abbrev rm_X2_sumOfSoonest : Room := { frames := 4, cells := 0, slots := 0, locals := 102 }
set_option maxRecDepth 100000 in
set_option maxHeartbeats 4000000 in
theorem c_X2_sumOfSoonest (l : Launch) {G : nc_G} {K : nc_K} {o : Nat} (h0 : nc_LNC G K o) (mi : nc_Mem)  (res : nc_Mem × Int32) (hf : f_X2_sumOfSoonest mi o = some res) : nc_M l yX2_sumOfSoonest cX2_sumOfSoonest 4 (some .int) rm_X2_sumOfSoonest 0 0 G K K [.ref (o + 55)] mi res.1 (some (.int res.2)) := by
  refine nc_meet_i (by decide) (Nat.le_of_ble_eq_true rfl) ?_
  intro p e s m args below meth c Q H locs ls cx hret hw hl
  have cx : nc_C p s m args c cX2_sumOfSoonest 4 RX2 G := cx
  have hl : lv_has ls 4 [(0, .ref (o + 55))] := hl
  have hx := cx.1
  have hb := cx.2.1
  unfold f_X2_sumOfSoonest at hf
  refine lv_iconst (v := 0) hx hb dX2_sumOfSoonest_0 (by decide) ?_
  refine lv_istore_n (lv' := [(1, .int 0), (0, .ref (o + 55))]) hx hb dX2_sumOfSoonest_1 rfl hl (by decide) rfl (fun ls hl => ?_)
  refine lv_iconst (v := 0) hx hb dX2_sumOfSoonest_2 (by decide) ?_
  refine lv_istore_n (lv' := [(2, .int 0), (1, .int 0), (0, .ref (o + 55))]) hx hb dX2_sumOfSoonest_3 rfl hl (by decide) rfl (fun ls hl => ?_)
  refine nc_loop_w (P := fun κ : Int32 → Int32 → nc_Mem → Option (nc_Mem × Int32) => ∀ (x1 : Int32) (x2 : Int32) (mi3 : nc_Mem), κ x1 x2 mi3 = some res → ∀ (H : Heap) (locs : List Loc) (ls : Array Slot), nc_W G K mi3 H locs → lv_has ls 4 [(0, .ref (o + 55)), (1, .int x1), (2, .int x2)] → W p l e rm_X2_sumOfSoonest s m args below meth c H locs 0 0 Q (F0 m 4 ls [])) ?_ ?_ 200 _ _ _ hf _ _ _ hw (lv_sub hl [2, 1, 0] rfl)
  · intro x1 x2 mi3 hf; exact absurd hf (by intro q; cases q)
  · intro rc4 ihrc4 x1 x2 mi3 hf H locs ls hw hl
    unfold B_X2_sumOfSoonest_4 at hf
    refine lv_iload_n hx hb dX2_sumOfSoonest_4 rfl (lv_at hl 2 rfl) ?_
    refine lv_aload_n hx hb dX2_sumOfSoonest_5 rfl (lv_at hl 0 rfl) ?_
    refine gr_X2_24 cx hw (lNC_mind_L h0) (lNC_m_town h0) (lTown_is (lNC_now_L h0)) dX2_sumOfSoonest_6 ?_
    refine gi_X2_127 cx hw (lTown_is (lNC_now_L h0)) dX2_sumOfSoonest_9 ?_
    refine lv_icmp_ge (tgt := 43) hx hb dX2_sumOfSoonest_12 (by decide) (fun c5 => ?_) (fun c5 => ?_)
    · have hf := nc_ifp hf c5
      refine lv_iload_n hx hb dX2_sumOfSoonest_43 rfl (lv_at hl 1 rfl) ?_
      exact nc_rpm hret hf rfl hw dX2_sumOfSoonest_44
    · have hf := nc_ifn hf c5
      refine lv_aload_n hx hb dX2_sumOfSoonest_15 rfl (lv_at hl 0 rfl) ?_
      refine lv_iload_n hx hb dX2_sumOfSoonest_16 rfl (lv_at hl 2 rfl) ?_
      obtain ⟨q6, hq6, hf⟩ := nc_bi hf
      refine nc_callVi cx hw lk_X2_121 (c_X2_soonestOf l h0 mi3 x2 q6 hq6) (ci := 2) rfl (lNC_mind_L h0) rfl hl.1 rfl (Nat.le_of_ble_eq_true rfl) ⟨rfl, rfl, Nat.le_of_ble_eq_true rfl, Nat.le_of_ble_eq_true rfl⟩ dX2_sumOfSoonest_17 (fun H locs hw => ?_)
      refine lv_istore_n (lv' := [(3, .int q6.2), (0, .ref (o + 55)), (1, .int x1), (2, .int x2)]) hx hb dX2_sumOfSoonest_20 rfl hl (by decide) rfl (fun ls hl => ?_)
      refine lv_iload_n hx hb dX2_sumOfSoonest_21 rfl (lv_at hl 2 rfl) ?_
      refine lv_iload_n hx hb dX2_sumOfSoonest_22 rfl (lv_at hl 0 rfl) ?_
      refine lv_bipush (v := (-9)) hx hb dX2_sumOfSoonest_23 (by decide) ?_
      refine lv_icmp_ne (tgt := 34) hx hb dX2_sumOfSoonest_25 (by decide) (fun c7 => ?_) (fun c7 => ?_)
      · have hf := nc_ifn hf c7
        refine lv_iload_n hx hb dX2_sumOfSoonest_34 rfl (lv_at hl 0 rfl) ?_
        refine lv_iadd hx hb dX2_sumOfSoonest_35 ?_
        refine lv_topi (fun x8 ex8 => ?_)
        have hf := nc_let_at hf ex8
        refine lv_istore_n (lv' := [(1, .int x8), (3, .int q6.2), (0, .ref (o + 55)), (2, .int x2)]) hx hb dX2_sumOfSoonest_36 rfl hl (by decide) rfl (fun ls hl => ?_)
        obtain ⟨x9, ex9⟩ : ∃ y : Int32, y = x2 + 1 := ⟨_, rfl⟩
        have hf := nc_let_at hf ex9
        refine lv_iinc (v := x9) (lv' := [(2, .int x9), (1, .int x8), (3, .int q6.2), (0, .ref (o + 55))]) hx hb dX2_sumOfSoonest_37 hl (k := 3) rfl (by rw [ex9]; rfl) (by decide) rfl (fun ls hl => ?_)
        refine lv_goto (tgt := 4) hx hb dX2_sumOfSoonest_40 (by decide) ?_
        exact ihrc4 _ _ _ hf _ _ _ hw (lv_sub hl [3, 1, 0] rfl)
      · have hf := nc_ifp hf c7
        refine lv_sipush (v := 999) hx hb dX2_sumOfSoonest_28 (by decide) ?_
        refine lv_goto (tgt := 35) hx hb dX2_sumOfSoonest_31 (by decide) ?_
        refine lv_iadd hx hb dX2_sumOfSoonest_35 ?_
        refine lv_topi (fun x10 ex10 => ?_)
        have hf := nc_let_at hf ex10
        refine lv_istore_n (lv' := [(1, .int x10), (3, .int q6.2), (0, .ref (o + 55)), (2, .int x2)]) hx hb dX2_sumOfSoonest_36 rfl hl (by decide) rfl (fun ls hl => ?_)
        obtain ⟨x11, ex11⟩ : ∃ y : Int32, y = x2 + 1 := ⟨_, rfl⟩
        have hf := nc_let_at hf ex11
        refine lv_iinc (v := x11) (lv' := [(2, .int x11), (1, .int x10), (3, .int q6.2), (0, .ref (o + 55))]) hx hb dX2_sumOfSoonest_37 hl (k := 3) rfl (by rw [ex11]; rfl) (by decide) rfl (fun ls hl => ?_)
        refine lv_goto (tgt := 4) hx hb dX2_sumOfSoonest_40 (by decide) ?_
        exact ihrc4 _ _ _ hf _ _ _ hw (lv_sub hl [3, 1, 0] rfl)
abbrev rm_X7_beside : Room := { frames := 6, cells := 0, slots := 0, locals := 141 }
set_option maxRecDepth 100000 in
set_option maxHeartbeats 4000000 in
theorem c_X7_beside (l : Launch) {G : nc_G} {K : nc_K} {o : Nat} (h0 : nc_LNC G K o) (mi : nc_Mem)  (res : nc_Mem × Int32) (hf : f_X7_beside mi o = some res) : nc_M l yX7_beside cX7_beside 2 (some .int) rm_X7_beside 0 0 G K K [.ref o] mi res.1 (some (.int res.2)) := by
  refine nc_meet_i (by decide) (Nat.le_of_ble_eq_true rfl) ?_
  intro p e s m args below meth c Q H locs ls cx hret hw hl
  have cx : nc_C p s m args c cX7_beside 2 RX7 G := cx
  have hl : lv_has ls 2 [(0, .ref o)] := hl
  have hx := cx.1
  have hb := cx.2.1
  unfold f_X7_beside at hf
  refine lv_aload_n hx hb dX7_beside_0 rfl (lv_at hl 0 rfl) ?_
  refine gr_X7_34 cx hw (lNC_is h0) (lNC_mind h0) (lNC_mind_L h0) dX7_beside_1 ?_
  obtain ⟨q1, hq1, hf⟩ := nc_bi hf
  refine nc_callVv cx hw lk_X7_155 (c_X2_recall l h0 mi  q1 hq1) (ci := 2) rfl (lNC_mind_L h0) rfl hl.1 rfl (Nat.le_of_ble_eq_true rfl) ⟨rfl, rfl, Nat.le_of_ble_eq_true rfl, Nat.le_of_ble_eq_true rfl⟩ dX7_beside_4 (fun H locs hw => ?_)
  refine lv_aload_n hx hb dX7_beside_7 rfl (lv_at hl 0 rfl) ?_
  refine gr_X7_34 cx hw (lNC_is h0) (lNC_mind h0) (lNC_mind_L h0) dX7_beside_8 ?_
  obtain ⟨q2, hq2, hf⟩ := nc_bi hf
  refine nc_callVi cx hw lk_X7_199 (c_X2_sumOfSoonest l h0 q1  q2 hq2) (ci := 2) rfl (lNC_mind_L h0) rfl hl.1 rfl (Nat.le_of_ble_eq_true rfl) ⟨rfl, rfl, Nat.le_of_ble_eq_true rfl, Nat.le_of_ble_eq_true rfl⟩ dX7_beside_11 (fun H locs hw => ?_)
  refine lv_istore_n (lv' := [(1, .int q2.2), (0, .ref o)]) hx hb dX7_beside_14 rfl hl (by decide) rfl (fun ls hl => ?_)
  refine lv_aload_n hx hb dX7_beside_15 rfl (lv_at hl 1 rfl) ?_
  refine gr_X7_34 cx hw (lNC_is h0) (lNC_mind h0) (lNC_mind_L h0) dX7_beside_16 ?_
  refine lv_iconst (v := 3) hx hb dX7_beside_19 (by decide) ?_
  refine pi_X7_202 cx hw (lNC_mind_L h0) dX7_beside_20 (fun mi3 H locs emi3 hw => ?_)
  have hf := nc_let_at hf emi3
  refine lv_iload_n hx hb dX7_beside_23 rfl (lv_at hl 0 rfl) ?_
  refine lv_aload_n hx hb dX7_beside_24 rfl (lv_at hl 1 rfl) ?_
  refine gr_X7_34 cx hw (lNC_is h0) (lNC_mind h0) (lNC_mind_L h0) dX7_beside_25 ?_
  obtain ⟨q4, hq4, hf⟩ := nc_bi hf
  refine nc_callVi cx hw lk_X7_199 (c_X2_sumOfSoonest l h0 mi3  q4 hq4) (ci := 2) rfl (lNC_mind_L h0) rfl hl.1 rfl (Nat.le_of_ble_eq_true rfl) ⟨rfl, rfl, Nat.le_of_ble_eq_true rfl, Nat.le_of_ble_eq_true rfl⟩ dX7_beside_28 (fun H locs hw => ?_)
  refine lv_isub hx hb dX7_beside_31 ?_
  exact nc_rpm hret hf rfl hw dX7_beside_32
abbrev rm_X2_bestChange : Room := { frames := 5, cells := 0, slots := 0, locals := 125 }
set_option maxRecDepth 100000 in
set_option maxHeartbeats 4000000 in
theorem c_X2_bestChange (l : Launch) {G : nc_G} {K : nc_K} {o : Nat} (h0 : nc_LNC G K o) (mi : nc_Mem)  (res : nc_Mem × Int32) (hf : f_X2_bestChange mi o = some res) : nc_M l yX2_bestChange cX2_bestChange 6 (some .int) rm_X2_bestChange 0 0 G K K [.ref (o + 55)] mi res.1 (some (.int res.2)) := by
  refine nc_meet_i (by decide) (Nat.le_of_ble_eq_true rfl) ?_
  intro p e s m args below meth c Q H locs ls cx hret hw hl
  have cx : nc_C p s m args c cX2_bestChange 6 RX2 G := cx
  have hl : lv_has ls 6 [(0, .ref (o + 55))] := hl
  have hx := cx.1
  have hb := cx.2.1
  unfold f_X2_bestChange at hf
  refine lv_aload_n hx hb dX2_bestChange_0 rfl (lv_at hl 0 rfl) ?_
  obtain ⟨q1, hq1, hf⟩ := nc_bi hf
  refine nc_callVi cx hw lk_X2_130 (c_X2_sumOfSoonest l h0 mi  q1 hq1) (ci := 2) rfl (lNC_mind_L h0) rfl hl.1 rfl (Nat.le_of_ble_eq_true rfl) ⟨rfl, rfl, Nat.le_of_ble_eq_true rfl, Nat.le_of_ble_eq_true rfl⟩ dX2_bestChange_1 (fun H locs hw => ?_)
  refine lv_istore_n (lv' := [(1, .int q1.2), (0, .ref (o + 55))]) hx hb dX2_bestChange_4 rfl hl (by decide) rfl (fun ls hl => ?_)
  refine lv_bipush (v := (-9)) hx hb dX2_bestChange_5 (by decide) ?_
  refine lv_istore_n (lv' := [(2, .int (-9)), (1, .int q1.2), (0, .ref (o + 55))]) hx hb dX2_bestChange_7 rfl hl (by decide) rfl (fun ls hl => ?_)
  refine lv_iconst (v := 0) hx hb dX2_bestChange_8 (by decide) ?_
  refine lv_istore_n (lv' := [(3, .int 0), (2, .int (-9)), (1, .int q1.2), (0, .ref (o + 55))]) hx hb dX2_bestChange_9 rfl hl (by decide) rfl (fun ls hl => ?_)
  refine nc_loop_w (P := fun κ : Int32 → Int32 → Int32 → nc_Mem → Option (nc_Mem × Int32) => ∀ (x2 : Int32) (x3 : Int32) (x4 : Int32) (mi5 : nc_Mem), κ x2 x3 x4 mi5 = some res → ∀ (H : Heap) (locs : List Loc) (ls : Array Slot), nc_W G K mi5 H locs → lv_has ls 6 [(0, .ref (o + 55)), (1, .int x2), (2, .int x3), (3, .int x4)] → W p l e rm_X2_bestChange s m args below meth c H locs 0 0 Q (F0 m 10 ls [])) ?_ ?_ 200 _ _ _ _ hf _ _ _ hw (lv_sub hl [3, 2, 1, 0] rfl)
  · intro x2 x3 x4 mi5 hf; exact absurd hf (by intro q; cases q)
  · intro rc6 ihrc6 x2 x3 x4 mi5 hf H locs ls hw hl
    unfold B_X2_bestChange_10 at hf
    refine lv_iload_n hx hb dX2_bestChange_10 rfl (lv_at hl 3 rfl) ?_
    refine lv_aload_n hx hb dX2_bestChange_11 rfl (lv_at hl 0 rfl) ?_
    refine gr_X2_24 cx hw (lNC_mind_L h0) (lNC_m_town h0) (lTown_is (lNC_now_L h0)) dX2_bestChange_12 ?_
    refine gi_X2_41 cx hw (lTown_is (lNC_now_L h0)) dX2_bestChange_15 ?_
    refine lv_icmp_ge (tgt := 101) hx hb dX2_bestChange_18 (by decide) (fun c7 => ?_) (fun c7 => ?_)
    · have hf := nc_ifp hf c7
      refine lv_iload_n hx hb dX2_bestChange_101 rfl (lv_at hl 2 rfl) ?_
      exact nc_rpm hret hf rfl hw dX2_bestChange_102
    · have hf := nc_ifn hf c7
      refine lv_iload_n hx hb dX2_bestChange_21 rfl (lv_at hl 3 rfl) ?_
      refine lv_iconst (v := 1) hx hb dX2_bestChange_22 (by decide) ?_
      refine lv_iadd hx hb dX2_bestChange_23 ?_
      refine lv_topi (fun x8 ex8 => ?_)
      have hf := nc_let_at hf ex8
      refine lv_istore (lv' := [(4, .int x8), (0, .ref (o + 55)), (1, .int x2), (2, .int x3), (3, .int x4)]) hx hb dX2_bestChange_24 hl (by decide) rfl (fun ls hl => ?_)
      refine nc_loop_w (P := fun κ : Int32 → Int32 → Int32 → nc_Mem → Option (nc_Mem × Int32) => ∀ (x9 : Int32) (x10 : Int32) (x11 : Int32) (mi12 : nc_Mem), κ x9 x10 x11 mi12 = some res → ∀ (H : Heap) (locs : List Loc) (ls : Array Slot), nc_W G K mi12 H locs → lv_has ls 6 [(0, .ref (o + 55)), (1, .int x9), (2, .int x10), (3, .int x4), (4, .int x11)] → W p l e rm_X2_bestChange s m args below meth c H locs 0 0 Q (F0 m 26 ls [])) ?_ ?_ 200 _ _ _ _ hf _ _ _ hw (lv_sub hl [1, 2, 3, 4, 0] rfl)
      · intro x9 x10 x11 mi12 hf; exact absurd hf (by intro q; cases q)
      · intro rc13 ihrc13 x9 x10 x11 mi12 hf H locs ls hw hl
        unfold B_X2_bestChange_26 at hf
        refine lv_iload hx hb dX2_bestChange_26 (lv_at hl 4 rfl) ?_
        refine lv_aload_n hx hb dX2_bestChange_28 rfl (lv_at hl 0 rfl) ?_
        refine gr_X2_24 cx hw (lNC_mind_L h0) (lNC_m_town h0) (lTown_is (lNC_now_L h0)) dX2_bestChange_29 ?_
        refine gi_X2_41 cx hw (lTown_is (lNC_now_L h0)) dX2_bestChange_32 ?_
        refine lv_icmp_ge (tgt := 95) hx hb dX2_bestChange_35 (by decide) (fun c14 => ?_) (fun c14 => ?_)
        · have hf := nc_ifp hf c14
          obtain ⟨x15, ex15⟩ : ∃ y : Int32, y = x4 + 1 := ⟨_, rfl⟩
          have hf := nc_let_at hf ex15
          refine lv_iinc (v := x15) (lv' := [(3, .int x15), (0, .ref (o + 55)), (1, .int x9), (2, .int x10), (4, .int x11)]) hx hb dX2_bestChange_95 hl (k := 3) rfl (by rw [ex15]; rfl) (by decide) rfl (fun ls hl => ?_)
          refine lv_goto (tgt := 10) hx hb dX2_bestChange_98 (by decide) ?_
          exact ihrc6 _ _ _ _ hf _ _ _ hw (lv_sub hl [1, 2, 3, 0] rfl)
        · have hf := nc_ifn hf c14
          refine lv_aload_n hx hb dX2_bestChange_38 rfl (lv_at hl 0 rfl) ?_
          refine lv_iload_n hx hb dX2_bestChange_39 rfl (lv_at hl 3 rfl) ?_
          refine lv_iload hx hb dX2_bestChange_40 (lv_at hl 4 rfl) ?_
          obtain ⟨q16, hq16, hf⟩ := nc_bi hf
          refine nc_callVv cx hw lk_X2_44 (c_X2_leadFrom l h0 mi12 x4 x11 q16 hq16) (ci := 2) rfl (lNC_mind_L h0) rfl hl.1 rfl (Nat.le_of_ble_eq_true rfl) ⟨rfl, rfl, Nat.le_of_ble_eq_true rfl, Nat.le_of_ble_eq_true rfl⟩ dX2_bestChange_42 (fun H locs hw => ?_)
          refine lv_aload_n hx hb dX2_bestChange_45 rfl (lv_at hl 0 rfl) ?_
          refine lv_iload hx hb dX2_bestChange_46 (lv_at hl 4 rfl) ?_
          refine lv_iload_n hx hb dX2_bestChange_48 rfl (lv_at hl 3 rfl) ?_
          obtain ⟨q17, hq17, hf⟩ := nc_bi hf
          refine nc_callVv cx hw lk_X2_44 (c_X2_leadFrom l h0 q16 x11 x4 q17 hq17) (ci := 2) rfl (lNC_mind_L h0) rfl hl.1 rfl (Nat.le_of_ble_eq_true rfl) ⟨rfl, rfl, Nat.le_of_ble_eq_true rfl, Nat.le_of_ble_eq_true rfl⟩ dX2_bestChange_49 (fun H locs hw => ?_)
          refine lv_aload_n hx hb dX2_bestChange_52 rfl (lv_at hl 0 rfl) ?_
          obtain ⟨q18, hq18, hf⟩ := nc_bi hf
          refine nc_callVi cx hw lk_X2_130 (c_X2_sumOfSoonest l h0 q17  q18 hq18) (ci := 2) rfl (lNC_mind_L h0) rfl hl.1 rfl (Nat.le_of_ble_eq_true rfl) ⟨rfl, rfl, Nat.le_of_ble_eq_true rfl, Nat.le_of_ble_eq_true rfl⟩ dX2_bestChange_53 (fun H locs hw => ?_)
          refine lv_istore (lv' := [(5, .int q18.2), (0, .ref (o + 55)), (1, .int x9), (2, .int x10), (3, .int x4), (4, .int x11)]) hx hb dX2_bestChange_56 hl (by decide) rfl (fun ls hl => ?_)
          refine lv_aload_n hx hb dX2_bestChange_58 rfl (lv_at hl 1 rfl) ?_
          refine lv_iload_n hx hb dX2_bestChange_59 rfl (lv_at hl 4 rfl) ?_
          refine lv_iload_n hx hb dX2_bestChange_60 rfl (lv_at hl 4 rfl) ?_
          obtain ⟨q19, hq19, hf⟩ := nc_bi hf
          refine nc_callVv cx hw lk_X2_44 (c_X2_leadFrom l h0 q18.1 x4 x4 q19 hq19) (ci := 2) rfl (lNC_mind_L h0) rfl hl.1 rfl (Nat.le_of_ble_eq_true rfl) ⟨rfl, rfl, Nat.le_of_ble_eq_true rfl, Nat.le_of_ble_eq_true rfl⟩ dX2_bestChange_61 (fun H locs hw => ?_)
          refine lv_aload_n hx hb dX2_bestChange_64 rfl (lv_at hl 1 rfl) ?_
          refine lv_iload hx hb dX2_bestChange_65 (lv_at hl 5 rfl) ?_
          refine lv_iload hx hb dX2_bestChange_67 (lv_at hl 5 rfl) ?_
          obtain ⟨q20, hq20, hf⟩ := nc_bi hf
          refine nc_callVv cx hw lk_X2_44 (c_X2_leadFrom l h0 q19 x11 x11 q20 hq20) (ci := 2) rfl (lNC_mind_L h0) rfl hl.1 rfl (Nat.le_of_ble_eq_true rfl) ⟨rfl, rfl, Nat.le_of_ble_eq_true rfl, Nat.le_of_ble_eq_true rfl⟩ dX2_bestChange_69 (fun H locs hw => ?_)
          refine lv_iload hx hb dX2_bestChange_72 (lv_at hl 0 rfl) ?_
          refine lv_iload_n hx hb dX2_bestChange_74 rfl (lv_at hl 2 rfl) ?_
          refine lv_icmp_ge (tgt := 89) hx hb dX2_bestChange_75 (by decide) (fun c21 => ?_) (fun c21 => ?_)
          · have hf := nc_ifp hf c21
            obtain ⟨x22, ex22⟩ : ∃ y : Int32, y = x11 + 1 := ⟨_, rfl⟩
            have hf := nc_let_at hf ex22
            refine lv_iinc (v := x22) (lv' := [(4, .int x22), (5, .int q18.2), (0, .ref (o + 55)), (1, .int x9), (2, .int x10), (3, .int x4)]) hx hb dX2_bestChange_89 hl (k := 5) rfl (by rw [ex22]; rfl) (by decide) rfl (fun ls hl => ?_)
            refine lv_goto (tgt := 26) hx hb dX2_bestChange_92 (by decide) ?_
            exact ihrc13 _ _ _ _ hf _ _ _ hw (lv_sub hl [2, 3, 4, 5, 0] rfl)
          · have hf := nc_ifn hf c21
            refine lv_iload hx hb dX2_bestChange_78 (lv_at hl 0 rfl) ?_
            refine lv_istore_n (lv' := [(1, .int q18.2), (5, .int q18.2), (0, .ref (o + 55)), (2, .int x10), (3, .int x4), (4, .int x11)]) hx hb dX2_bestChange_80 rfl hl (by decide) rfl (fun ls hl => ?_)
            refine lv_bipush (v := 10) hx hb dX2_bestChange_81 (by decide) ?_
            refine lv_iload_n hx hb dX2_bestChange_83 rfl (lv_at hl 4 rfl) ?_
            refine lv_imul hx hb dX2_bestChange_84 ?_
            refine lv_iload hx hb dX2_bestChange_85 (lv_at hl 5 rfl) ?_
            refine lv_iadd hx hb dX2_bestChange_87 ?_
            refine lv_topi (fun x23 ex23 => ?_)
            have hf := nc_let_at hf ex23
            refine lv_istore_n (lv' := [(2, .int x23), (1, .int q18.2), (5, .int q18.2), (0, .ref (o + 55)), (3, .int x4), (4, .int x11)]) hx hb dX2_bestChange_88 rfl hl (by decide) rfl (fun ls hl => ?_)
            obtain ⟨x24, ex24⟩ : ∃ y : Int32, y = x11 + 1 := ⟨_, rfl⟩
            have hf := nc_let_at hf ex24
            refine lv_iinc (v := x24) (lv' := [(4, .int x24), (2, .int x23), (1, .int q18.2), (5, .int q18.2), (0, .ref (o + 55)), (3, .int x4)]) hx hb dX2_bestChange_89 hl (k := 5) rfl (by rw [ex24]; rfl) (by decide) rfl (fun ls hl => ?_)
            refine lv_goto (tgt := 26) hx hb dX2_bestChange_92 (by decide) ?_
            exact ihrc13 _ _ _ _ hf _ _ _ hw (lv_sub hl [4, 2, 1, 5, 0] rfl)
abbrev rm_X7_houses : Room := { frames := 6, cells := 0, slots := 0, locals := 150 }
set_option maxRecDepth 100000 in
set_option maxHeartbeats 4000000 in
theorem c_X7_houses (l : Launch) {G : nc_G} {K : nc_K} {o : Nat} (h0 : nc_LNC G K o) (mi : nc_Mem)  (res : nc_Mem × Int32) (hf : f_X7_houses mi o = some res) : nc_M l yX7_houses cX7_houses 1 (some .int) rm_X7_houses 0 0 G K K [.ref o] mi res.1 (some (.int res.2)) := by
  refine nc_meet_i (by decide) (Nat.le_of_ble_eq_true rfl) ?_
  intro p e s m args below meth c Q H locs ls cx hret hw hl
  have cx : nc_C p s m args c cX7_houses 1 RX7 G := cx
  have hl : lv_has ls 1 [(0, .ref o)] := hl
  have hx := cx.1
  have hb := cx.2.1
  unfold f_X7_houses at hf
  refine lv_aload_n hx hb dX7_houses_0 rfl (lv_at hl 0 rfl) ?_
  refine gr_X7_34 cx hw (lNC_is h0) (lNC_mind h0) (lNC_mind_L h0) dX7_houses_1 ?_
  obtain ⟨q1, hq1, hf⟩ := nc_bi hf
  refine nc_callVv cx hw lk_X7_155 (c_X2_recall l h0 mi  q1 hq1) (ci := 2) rfl (lNC_mind_L h0) rfl hl.1 rfl (Nat.le_of_ble_eq_true rfl) ⟨rfl, rfl, Nat.le_of_ble_eq_true rfl, Nat.le_of_ble_eq_true rfl⟩ dX7_houses_4 (fun H locs hw => ?_)
  refine lv_aload_n hx hb dX7_houses_7 rfl (lv_at hl 0 rfl) ?_
  refine gr_X7_34 cx hw (lNC_is h0) (lNC_mind h0) (lNC_mind_L h0) dX7_houses_8 ?_
  obtain ⟨q2, hq2, hf⟩ := nc_bi hf
  refine nc_callVi cx hw lk_X7_205 (c_X2_bestChange l h0 q1  q2 hq2) (ci := 2) rfl (lNC_mind_L h0) rfl hl.1 rfl (Nat.le_of_ble_eq_true rfl) ⟨rfl, rfl, Nat.le_of_ble_eq_true rfl, Nat.le_of_ble_eq_true rfl⟩ dX7_houses_11 (fun H locs hw => ?_)
  exact nc_rpm hret hf rfl hw dX7_houses_14
abbrev rm_X2_drawFrom : Room := { frames := 0, cells := 0, slots := 0, locals := 0 }
set_option maxRecDepth 100000 in
set_option maxHeartbeats 4000000 in
theorem c_X2_drawFrom (l : Launch) {G : nc_G} {K : nc_K} {o : Nat} (h0 : nc_LNC G K o) (mi : nc_Mem)  (res : nc_Mem × Int32) (hf : f_X2_drawFrom mi o = res) : nc_M l yX2_drawFrom cX2_drawFrom 1 (some .int) rm_X2_drawFrom 0 0 G K K [.ref (o + 55)] mi res.1 (some (.int res.2)) := by
  refine nc_meet_i (by decide) (Nat.le_of_ble_eq_true rfl) ?_
  intro p e s m args below meth c Q H locs ls cx hret hw hl
  have cx : nc_C p s m args c cX2_drawFrom 1 RX2 G := cx
  have hl : lv_has ls 1 [(0, .ref (o + 55))] := hl
  have hx := cx.1
  have hb := cx.2.1
  unfold f_X2_drawFrom at hf
  refine lv_aload_n hx hb dX2_drawFrom_0 rfl (lv_at hl 0 rfl) ?_
  refine lv_aload_n hx hb dX2_drawFrom_1 rfl (lv_at hl 0 rfl) ?_
  refine gi_X2_134 cx hw (lNC_mind_L h0) dX2_drawFrom_2 ?_
  refine nc_ldc (v := 1664525) cx kc_X2_144 dX2_drawFrom_5 ?_
  refine lv_imul hx hb dX2_drawFrom_7 ?_
  refine nc_ldc (v := 1013904223) cx kc_X2_145 dX2_drawFrom_8 ?_
  refine lv_iadd hx hb dX2_drawFrom_10 ?_
  refine pi_X2_134 cx hw (lNC_mind_L h0) dX2_drawFrom_11 (fun mi1 H locs emi1 hw => ?_)
  have hf := nc_let_at hf emi1
  refine lv_aload_n hx hb dX2_drawFrom_14 rfl (lv_at hl 0 rfl) ?_
  refine gi_X2_134 cx hw (lNC_mind_L h0) dX2_drawFrom_15 ?_
  refine nc_ldc (v := 2147483647) cx kc_X2_146 dX2_drawFrom_18 ?_
  refine lv_iand hx hb dX2_drawFrom_20 ?_
  refine lv_sipush (v := 256) hx hb dX2_drawFrom_21 (by decide) ?_
  refine lv_idiv hx hb dX2_drawFrom_24 (by decide) ?_
  refine lv_sipush (v := 721) hx hb dX2_drawFrom_25 (by decide) ?_
  refine lv_irem hx hb dX2_drawFrom_28 (by decide) ?_
  exact nc_rtm hret hf rfl hw dX2_drawFrom_29
abbrev rm_X2_inTimeOnDays : Room := { frames := 5, cells := 0, slots := 0, locals := 124 }
set_option maxRecDepth 100000 in
set_option maxHeartbeats 4000000 in
theorem c_X2_inTimeOnDays (l : Launch) {G : nc_G} {K : nc_K} {o : Nat} (h0 : nc_LNC G K o) (mi : nc_Mem) (a1 a2 : Int32) (res : nc_Mem × Int32) (hf : f_X2_inTimeOnDays mi o a1 a2 = some res) : nc_M l yX2_inTimeOnDays cX2_inTimeOnDays 6 (some .int) rm_X2_inTimeOnDays 0 0 G K K [.ref (o + 55), .int a1, .int a2] mi res.1 (some (.int res.2)) := by
  refine nc_meet_i (by decide) (Nat.le_of_ble_eq_true rfl) ?_
  intro p e s m args below meth c Q H locs ls cx hret hw hl
  have cx : nc_C p s m args c cX2_inTimeOnDays 6 RX2 G := cx
  have hl : lv_has ls 6 [(0, .ref (o + 55)), (1, .int a1), (2, .int a2)] := hl
  have hx := cx.1
  have hb := cx.2.1
  unfold f_X2_inTimeOnDays at hf
  refine lv_aload_n hx hb dX2_inTimeOnDays_0 rfl (lv_at hl 0 rfl) ?_
  refine lv_iload_n hx hb dX2_inTimeOnDays_1 rfl (lv_at hl 2 rfl) ?_
  refine pi_X2_134 cx hw (lNC_mind_L h0) dX2_inTimeOnDays_2 (fun mi1 H locs emi1 hw => ?_)
  have hf := nc_let_at hf emi1
  refine lv_iconst (v := 0) hx hb dX2_inTimeOnDays_5 (by decide) ?_
  refine lv_istore_n (lv' := [(3, .int 0), (0, .ref (o + 55)), (1, .int a1), (2, .int a2)]) hx hb dX2_inTimeOnDays_6 rfl hl (by decide) rfl (fun ls hl => ?_)
  refine lv_iconst (v := 0) hx hb dX2_inTimeOnDays_7 (by decide) ?_
  refine lv_istore (lv' := [(4, .int 0), (3, .int 0), (0, .ref (o + 55)), (1, .int a1), (2, .int a2)]) hx hb dX2_inTimeOnDays_8 hl (by decide) rfl (fun ls hl => ?_)
  refine nc_loop_w (P := fun κ : Int32 → Int32 → nc_Mem → Option (nc_Mem × Int32) => ∀ (x2 : Int32) (x3 : Int32) (mi4 : nc_Mem), κ x2 x3 mi4 = some res → ∀ (H : Heap) (locs : List Loc) (ls : Array Slot), nc_W G K mi4 H locs → lv_has ls 6 [(0, .ref (o + 55)), (1, .int a1), (3, .int x2), (4, .int x3)] → W p l e rm_X2_inTimeOnDays s m args below meth c H locs 0 0 Q (F0 m 10 ls [])) ?_ ?_ 200 _ _ _ hf _ _ _ hw (lv_sub hl [2, 3, 1, 0] rfl)
  · intro x2 x3 mi4 hf; exact absurd hf (by intro q; cases q)
  · intro rc5 ihrc5 x2 x3 mi4 hf H locs ls hw hl
    unfold B_X2_inTimeOnDays_10 at hf
    refine lv_iload hx hb dX2_inTimeOnDays_10 (lv_at hl 3 rfl) ?_
    refine lv_iload_n hx hb dX2_inTimeOnDays_12 rfl (lv_at hl 1 rfl) ?_
    refine lv_icmp_ge (tgt := 125) hx hb dX2_inTimeOnDays_13 (by decide) (fun c6 => ?_) (fun c6 => ?_)
    · have hf := nc_ifp hf c6
      refine lv_iload_n hx hb dX2_inTimeOnDays_125 rfl (lv_at hl 2 rfl) ?_
      exact nc_rpm hret hf rfl hw dX2_inTimeOnDays_126
    · have hf := nc_ifn hf c6
      refine lv_iconst (v := 0) hx hb dX2_inTimeOnDays_16 (by decide) ?_
      refine lv_istore (lv' := [(5, .int 0), (0, .ref (o + 55)), (1, .int a1), (3, .int x2), (4, .int x3)]) hx hb dX2_inTimeOnDays_17 hl (by decide) rfl (fun ls hl => ?_)
      refine nc_loop_w (P := fun κ : Int32 → nc_Mem → Option (nc_Mem × Int32) => ∀ (x7 : Int32) (mi8 : nc_Mem), κ x7 mi8 = some res → ∀ (H : Heap) (locs : List Loc) (ls : Array Slot), nc_W G K mi8 H locs → lv_has ls 6 [(0, .ref (o + 55)), (1, .int a1), (3, .int x2), (4, .int x3), (5, .int x7)] → W p l e rm_X2_inTimeOnDays s m args below meth c H locs 0 0 Q (F0 m 19 ls [])) ?_ ?_ 200 _ _ hf _ _ _ hw (lv_sub hl [1, 2, 3, 4, 0] rfl)
      · intro x7 mi8 hf; exact absurd hf (by intro q; cases q)
      · intro rc9 ihrc9 x7 mi8 hf H locs ls hw hl
        unfold B_X2_inTimeOnDays_19 at hf
        refine lv_iload hx hb dX2_inTimeOnDays_19 (lv_at hl 4 rfl) ?_
        refine lv_aload_n hx hb dX2_inTimeOnDays_21 rfl (lv_at hl 0 rfl) ?_
        refine gr_X2_24 cx hw (lNC_mind_L h0) (lNC_m_town h0) (lTown_is (lNC_now_L h0)) dX2_inTimeOnDays_22 ?_
        refine gi_X2_41 cx hw (lTown_is (lNC_now_L h0)) dX2_inTimeOnDays_25 ?_
        refine lv_icmp_ge (tgt := 81) hx hb dX2_inTimeOnDays_28 (by decide) (fun c10 => ?_) (fun c10 => ?_)
        · have hf := nc_ifp hf c10
          refine lv_iconst (v := 0) hx hb dX2_inTimeOnDays_81 (by decide) ?_
          refine lv_istore (lv' := [(5, .int 0), (0, .ref (o + 55)), (1, .int a1), (3, .int x2), (4, .int x3)]) hx hb dX2_inTimeOnDays_82 hl (by decide) rfl (fun ls hl => ?_)
          refine nc_loop_w (P := fun κ : Int32 → Int32 → nc_Mem → Option (nc_Mem × Int32) => ∀ (x11 : Int32) (x12 : Int32) (mi13 : nc_Mem), κ x11 x12 mi13 = some res → ∀ (H : Heap) (locs : List Loc) (ls : Array Slot), nc_W G K mi13 H locs → lv_has ls 6 [(0, .ref (o + 55)), (1, .int a1), (3, .int x11), (4, .int x3), (5, .int x12)] → W p l e rm_X2_inTimeOnDays s m args below meth c H locs 0 0 Q (F0 m 84 ls [])) ?_ ?_ 200 _ _ _ hf _ _ _ hw (lv_sub hl [1, 2, 3, 4, 0] rfl)
          · intro x11 x12 mi13 hf; exact absurd hf (by intro q; cases q)
          · intro rc14 ihrc14 x11 x12 mi13 hf H locs ls hw hl
            unfold B_X2_inTimeOnDays_84 at hf
            refine lv_iload hx hb dX2_inTimeOnDays_84 (lv_at hl 4 rfl) ?_
            refine lv_aload_n hx hb dX2_inTimeOnDays_86 rfl (lv_at hl 0 rfl) ?_
            refine gr_X2_24 cx hw (lNC_mind_L h0) (lNC_m_town h0) (lTown_is (lNC_now_L h0)) dX2_inTimeOnDays_87 ?_
            refine gi_X2_127 cx hw (lTown_is (lNC_now_L h0)) dX2_inTimeOnDays_90 ?_
            refine lv_icmp_ge (tgt := 119) hx hb dX2_inTimeOnDays_93 (by decide) (fun c15 => ?_) (fun c15 => ?_)
            · have hf := nc_ifp hf c15
              obtain ⟨x16, ex16⟩ : ∃ y : Int32, y = x3 + 1 := ⟨_, rfl⟩
              have hf := nc_let_at hf ex16
              refine lv_iinc (v := x16) (lv' := [(4, .int x16), (0, .ref (o + 55)), (1, .int a1), (3, .int x11), (5, .int x12)]) hx hb dX2_inTimeOnDays_119 hl (k := 3) rfl (by rw [ex16]; rfl) (by decide) rfl (fun ls hl => ?_)
              refine lv_goto (tgt := 10) hx hb dX2_inTimeOnDays_122 (by decide) ?_
              exact ihrc5 _ _ _ hf _ _ _ hw (lv_sub hl [1, 2, 3, 0] rfl)
            · have hf := nc_ifn hf c15
              refine lv_iload_n hx hb dX2_inTimeOnDays_96 rfl (lv_at hl 2 rfl) ?_
              refine lv_aload_n hx hb dX2_inTimeOnDays_97 rfl (lv_at hl 0 rfl) ?_
              refine lv_iload hx hb dX2_inTimeOnDays_98 (lv_at hl 4 rfl) ?_
              obtain ⟨q17, hq17, hf⟩ := nc_bi hf
              refine nc_callVi cx hw lk_X2_140 (c_X2_isInTime l h0 mi13 x12 q17 hq17) (ci := 2) rfl (lNC_mind_L h0) rfl hl.1 rfl (Nat.le_of_ble_eq_true rfl) ⟨rfl, rfl, Nat.le_of_ble_eq_true rfl, Nat.le_of_ble_eq_true rfl⟩ dX2_inTimeOnDays_100 (fun H locs hw => ?_)
              refine lv_if_eq (tgt := 110) hx hb dX2_inTimeOnDays_103 (by decide) (fun c18 => ?_) (fun c18 => ?_)
              · have hf := nc_ifp hf c18
                refine lv_iconst (v := 0) hx hb dX2_inTimeOnDays_110 (by decide) ?_
                refine lv_iadd hx hb dX2_inTimeOnDays_111 ?_
                refine lv_topi (fun x19 ex19 => ?_)
                have hf := nc_let_at hf ex19
                refine lv_istore_n (lv' := [(3, .int x19), (0, .ref (o + 55)), (1, .int a1), (4, .int x3), (5, .int x12)]) hx hb dX2_inTimeOnDays_112 rfl hl (by decide) rfl (fun ls hl => ?_)
                obtain ⟨x20, ex20⟩ : ∃ y : Int32, y = x12 + 1 := ⟨_, rfl⟩
                have hf := nc_let_at hf ex20
                refine lv_iinc (v := x20) (lv' := [(5, .int x20), (3, .int x19), (0, .ref (o + 55)), (1, .int a1), (4, .int x3)]) hx hb dX2_inTimeOnDays_113 hl (k := 4) rfl (by rw [ex20]; rfl) (by decide) rfl (fun ls hl => ?_)
                refine lv_goto (tgt := 84) hx hb dX2_inTimeOnDays_116 (by decide) ?_
                exact ihrc14 _ _ _ hf _ _ _ hw (lv_sub hl [2, 3, 1, 4, 0] rfl)
              · have hf := nc_ifn hf c18
                refine lv_iconst (v := 1) hx hb dX2_inTimeOnDays_106 (by decide) ?_
                refine lv_goto (tgt := 111) hx hb dX2_inTimeOnDays_107 (by decide) ?_
                refine lv_iadd hx hb dX2_inTimeOnDays_111 ?_
                refine lv_topi (fun x21 ex21 => ?_)
                have hf := nc_let_at hf ex21
                refine lv_istore_n (lv' := [(3, .int x21), (0, .ref (o + 55)), (1, .int a1), (4, .int x3), (5, .int x12)]) hx hb dX2_inTimeOnDays_112 rfl hl (by decide) rfl (fun ls hl => ?_)
                obtain ⟨x22, ex22⟩ : ∃ y : Int32, y = x12 + 1 := ⟨_, rfl⟩
                have hf := nc_let_at hf ex22
                refine lv_iinc (v := x22) (lv' := [(5, .int x22), (3, .int x21), (0, .ref (o + 55)), (1, .int a1), (4, .int x3)]) hx hb dX2_inTimeOnDays_113 hl (k := 4) rfl (by rw [ex22]; rfl) (by decide) rfl (fun ls hl => ?_)
                refine lv_goto (tgt := 84) hx hb dX2_inTimeOnDays_116 (by decide) ?_
                exact ihrc14 _ _ _ hf _ _ _ hw (lv_sub hl [2, 3, 1, 4, 0] rfl)
        · have hf := nc_ifn hf c10
          refine lv_aload_n hx hb dX2_inTimeOnDays_31 rfl (lv_at hl 0 rfl) ?_
          refine gr_X2_11 cx hw (lNC_mind_L h0) (lNC_m_ways h0) (lNC_m_ways_L h0) dX2_inTimeOnDays_32 ?_
          refine lv_iload hx hb dX2_inTimeOnDays_35 (lv_at hl 4 rfl) ?_
          obtain ⟨j23, ej23, ij23, lj23, hf⟩ := nc_ix hf
          refine nc_ald cx hw (by decide) (lNC_m_ways_L h0) ij23 ej23 ((lNC_m_ways_E h0 j23 lj23)).1 (lWay_is ((lNC_m_ways_E h0 j23 lj23)).2) dX2_inTimeOnDays_37 ?_
          refine lv_aload_n hx hb dX2_inTimeOnDays_38 rfl (lv_at hl 0 rfl) ?_
          refine gr_X2_24 cx hw (lNC_mind_L h0) (lNC_m_town h0) (lTown_is (lNC_now_L h0)) dX2_inTimeOnDays_39 ?_
          refine lv_aload_n hx hb dX2_inTimeOnDays_42 rfl (lv_at hl 0 rfl) ?_
          refine gr_X2_24 cx hw (lNC_mind_L h0) (lNC_m_town h0) (lTown_is (lNC_now_L h0)) dX2_inTimeOnDays_43 ?_
          refine gr_X2_48 cx hw (lTown_is (lNC_now_L h0)) (lTown_people (lNC_now_L h0)) (lTown_people_L (lNC_now_L h0)) dX2_inTimeOnDays_46 ?_
          refine lv_iload hx hb dX2_inTimeOnDays_49 (lv_at hl 4 rfl) ?_
          refine nc_ald cx hw (by decide) (lTown_people_L (lNC_now_L h0)) ij23 ej23 ((lTown_people_E (lNC_now_L h0) j23 lj23)).1 (lPerson_is ((lTown_people_E (lNC_now_L h0) j23 lj23)).2) dX2_inTimeOnDays_51 ?_
          refine gi_X2_52 cx hw (lPerson_is ((lTown_people_E (lNC_now_L h0) j23 lj23)).2) dX2_inTimeOnDays_52 ?_
          refine lv_aload_n hx hb dX2_inTimeOnDays_55 rfl (lv_at hl 0 rfl) ?_
          refine gr_X2_24 cx hw (lNC_mind_L h0) (lNC_m_town h0) (lTown_is (lNC_now_L h0)) dX2_inTimeOnDays_56 ?_
          refine gr_X2_48 cx hw (lTown_is (lNC_now_L h0)) (lTown_people (lNC_now_L h0)) (lTown_people_L (lNC_now_L h0)) dX2_inTimeOnDays_59 ?_
          refine lv_iload hx hb dX2_inTimeOnDays_62 (lv_at hl 4 rfl) ?_
          refine nc_ald cx hw (by decide) (lTown_people_L (lNC_now_L h0)) ij23 ej23 ((lTown_people_E (lNC_now_L h0) j23 lj23)).1 (lPerson_is ((lTown_people_E (lNC_now_L h0) j23 lj23)).2) dX2_inTimeOnDays_64 ?_
          refine gi_X2_57 cx hw (lPerson_is ((lTown_people_E (lNC_now_L h0) j23 lj23)).2) dX2_inTimeOnDays_65 ?_
          refine lv_aload_n hx hb dX2_inTimeOnDays_68 rfl (lv_at hl 0 rfl) ?_
          obtain ⟨q24, hq24, hf⟩ := nc_jn_of hf
          refine nc_callVi cx hw lk_X2_137 (c_X2_drawFrom l h0 mi8  q24 hq24.symm) (ci := 2) rfl (lNC_mind_L h0) rfl hl.1 rfl (Nat.le_of_ble_eq_true rfl) ⟨rfl, rfl, Nat.le_of_ble_eq_true rfl, Nat.le_of_ble_eq_true rfl⟩ dX2_inTimeOnDays_69 (fun H locs hw => ?_)
          obtain ⟨q25, hq25, hf⟩ := nc_bi hf
          refine nc_callVv cx hw lk_X2_63 (c_X6_lead l ((lNC_m_ways_E h0 j23 lj23)).2 (lNC_now_L h0) q24.1 (mi8 (o + 1 + 5 + j23) 0) (mi8 (o + 1 + 5 + j23) 1) q24.2 q25 hq25) (ci := 6) rfl (lWay_is ((lNC_m_ways_E h0 j23 lj23)).2) rfl hl.1 rfl (Nat.le_of_ble_eq_true rfl) ⟨rfl, rfl, Nat.le_of_ble_eq_true rfl, Nat.le_of_ble_eq_true rfl⟩ dX2_inTimeOnDays_72 (fun H locs hw => ?_)
          obtain ⟨x26, ex26⟩ : ∃ y : Int32, y = x7 + 1 := ⟨_, rfl⟩
          have hf := nc_let_at hf ex26
          refine lv_iinc (v := x26) (lv' := [(5, .int x26), (0, .ref (o + 55)), (1, .int a1), (3, .int x2), (4, .int x3)]) hx hb dX2_inTimeOnDays_75 hl (k := 4) rfl (by rw [ex26]; rfl) (by decide) rfl (fun ls hl => ?_)
          refine lv_goto (tgt := 19) hx hb dX2_inTimeOnDays_78 (by decide) ?_
          exact ihrc9 _ _ hf _ _ _ hw (lv_sub hl [1, 2, 3, 4, 0] rfl)
abbrev rm_X7_days : Room := { frames := 6, cells := 0, slots := 0, locals := 149 }
set_option maxRecDepth 100000 in
set_option maxHeartbeats 4000000 in
theorem c_X7_days (l : Launch) {G : nc_G} {K : nc_K} {o : Nat} (h0 : nc_LNC G K o) (mi : nc_Mem) (a1 a2 : Int32) (res : nc_Mem × Int32) (hf : f_X7_days mi o a1 a2 = some res) : nc_M l yX7_days cX7_days 3 (some .int) rm_X7_days 0 0 G K K [.ref o, .int a1, .int a2] mi res.1 (some (.int res.2)) := by
  refine nc_meet_i (by decide) (Nat.le_of_ble_eq_true rfl) ?_
  intro p e s m args below meth c Q H locs ls cx hret hw hl
  have cx : nc_C p s m args c cX7_days 3 RX7 G := cx
  have hl : lv_has ls 3 [(0, .ref o), (1, .int a1), (2, .int a2)] := hl
  have hx := cx.1
  have hb := cx.2.1
  unfold f_X7_days at hf
  refine lv_iload_n hx hb dX7_days_0 rfl (lv_at hl 1 rfl) ?_
  refine lv_iconst (v := 1) hx hb dX7_days_1 (by decide) ?_
  refine lv_icmp_ge (tgt := 12) hx hb dX7_days_2 (by decide) (fun c1 => ?_) (fun c1 => ?_)
  · have hf := nc_ifp hf c1
    refine lv_iload_n hx hb dX7_days_12 rfl (lv_at hl 1 rfl) ?_
    refine lv_bipush (v := 14) hx hb dX7_days_13 (by decide) ?_
    refine lv_icmp_le (tgt := 25) hx hb dX7_days_15 (by decide) (fun c2 => ?_) (fun c2 => ?_)
    · have hf := nc_ifp hf c2
      refine lv_aload_n hx hb dX7_days_25 rfl (lv_at hl 0 rfl) ?_
      refine gr_X7_34 cx hw (lNC_is h0) (lNC_mind h0) (lNC_mind_L h0) dX7_days_26 ?_
      obtain ⟨q3, hq3, hf⟩ := nc_bi hf
      refine nc_callVv cx hw lk_X7_155 (c_X2_recall l h0 mi  q3 hq3) (ci := 2) rfl (lNC_mind_L h0) rfl hl.1 rfl (Nat.le_of_ble_eq_true rfl) ⟨rfl, rfl, Nat.le_of_ble_eq_true rfl, Nat.le_of_ble_eq_true rfl⟩ dX7_days_29 (fun H locs hw => ?_)
      refine lv_aload_n hx hb dX7_days_32 rfl (lv_at hl 0 rfl) ?_
      refine gr_X7_34 cx hw (lNC_is h0) (lNC_mind h0) (lNC_mind_L h0) dX7_days_33 ?_
      refine lv_iload_n hx hb dX7_days_36 rfl (lv_at hl 1 rfl) ?_
      refine lv_iload_n hx hb dX7_days_37 rfl (lv_at hl 2 rfl) ?_
      obtain ⟨q4, hq4, hf⟩ := nc_bi hf
      refine nc_callVi cx hw lk_X7_208 (c_X2_inTimeOnDays l h0 q3 a1 a2 q4 hq4) (ci := 2) rfl (lNC_mind_L h0) rfl hl.1 rfl (Nat.le_of_ble_eq_true rfl) ⟨rfl, rfl, Nat.le_of_ble_eq_true rfl, Nat.le_of_ble_eq_true rfl⟩ dX7_days_38 (fun H locs hw => ?_)
      exact nc_rpm hret hf rfl hw dX7_days_41
    · have hf := nc_ifn hf c2
      refine lv_aload_n hx hb dX7_days_18 rfl (lv_at hl 0 rfl) ?_
      refine lv_bipush (v := (-6)) hx hb dX7_days_19 (by decide) ?_
      obtain ⟨q5, hq5, hf⟩ := nc_bi hf
      refine nc_callVi cx hw lk_X7_60 (c_X7_refuse l h0 mi (-6) q5 hq5) (ci := 7) rfl (lNC_is h0) rfl hl.1 rfl (Nat.le_of_ble_eq_true rfl) ⟨rfl, rfl, Nat.le_of_ble_eq_true rfl, Nat.le_of_ble_eq_true rfl⟩ dX7_days_21 (fun H locs hw => ?_)
      exact nc_rpm hret hf rfl hw dX7_days_24
  · have hf := nc_ifn hf c1
    refine lv_aload_n hx hb dX7_days_5 rfl (lv_at hl 0 rfl) ?_
    refine lv_bipush (v := (-4)) hx hb dX7_days_6 (by decide) ?_
    obtain ⟨q6, hq6, hf⟩ := nc_bi hf
    refine nc_callVi cx hw lk_X7_60 (c_X7_refuse l h0 mi (-4) q6 hq6) (ci := 7) rfl (lNC_is h0) rfl hl.1 rfl (Nat.le_of_ble_eq_true rfl) ⟨rfl, rfl, Nat.le_of_ble_eq_true rfl, Nat.le_of_ble_eq_true rfl⟩ dX7_days_8 (fun H locs hw => ?_)
    exact nc_rpm hret hf rfl hw dX7_days_11
abbrev rm_X7_row : Room := { frames := 1, cells := 0, slots := 0, locals := 22 }
set_option maxRecDepth 100000 in
set_option maxHeartbeats 4000000 in
theorem c_X7_row (l : Launch) {G : nc_G} {K : nc_K} {o : Nat} (h0 : nc_LNC G K o) (mi : nc_Mem) (a1 : Int32) (res : nc_Mem × Int32) (hf : f_X7_row mi o a1 = some res) : nc_M l yX7_row cX7_row 2 (some .int) rm_X7_row 0 0 G K K [.ref o, .int a1] mi res.1 (some (.int res.2)) := by
  refine nc_meet_i (by decide) (Nat.le_of_ble_eq_true rfl) ?_
  intro p e s m args below meth c Q H locs ls cx hret hw hl
  have cx : nc_C p s m args c cX7_row 2 RX7 G := cx
  have hl : lv_has ls 2 [(0, .ref o), (1, .int a1)] := hl
  have hx := cx.1
  have hb := cx.2.1
  unfold f_X7_row at hf
  refine lv_iload_n hx hb dX7_row_0 rfl (lv_at hl 1 rfl) ?_
  refine lv_if_ge (tgt := 11) hx hb dX7_row_1 (by decide) (fun c1 => ?_) (fun c1 => ?_)
  · have hf := nc_ifp hf c1
    refine lv_iload_n hx hb dX7_row_11 rfl (lv_at hl 1 rfl) ?_
    refine lv_bipush (v := 9) hx hb dX7_row_12 (by decide) ?_
    obtain ⟨k2, ek2, hf⟩ := nc_jn_of hf
    have hk2 : k2 = some res → ∀ (H : Heap) (locs : List Loc) (ls : Array Slot), nc_W G K mi H locs → lv_has ls 2 [(0, .ref o)] → W p l e rm_X7_row s m args below meth c H locs 0 0 Q (F0 m 29 ls []) := by
      intro hf H locs ls hw hl
      have hf := (ek2).symm.trans hf
      refine lv_aload_n hx hb dX7_row_29 rfl (lv_at hl 0 rfl) ?_
      refine lv_bipush (v := (-6)) hx hb dX7_row_30 (by decide) ?_
      obtain ⟨q3, hq3, hf⟩ := nc_bi hf
      refine nc_callVi cx hw lk_X7_60 (c_X7_refuse l h0 mi (-6) q3 hq3) (ci := 7) rfl (lNC_is h0) rfl hl.1 rfl (Nat.le_of_ble_eq_true rfl) ⟨rfl, rfl, Nat.le_of_ble_eq_true rfl, Nat.le_of_ble_eq_true rfl⟩ dX7_row_32 (fun H locs hw => ?_)
      exact nc_rpm hret hf rfl hw dX7_row_35
    refine lv_icmp_gt (tgt := 29) hx hb dX7_row_14 (by decide) (fun c4 => ?_) (fun c4 => ?_)
    · have hf := nc_ifp hf c4
      exact hk2 hf _ _ _ hw (lv_sub hl [0] rfl)
    · have hf := nc_ifn hf c4
      refine lv_aload_n hx hb dX7_row_17 rfl (lv_at hl 0 rfl) ?_
      refine gi_X7_52 cx hw (lNC_is h0) dX7_row_18 ?_
      refine lv_aload_n hx hb dX7_row_21 rfl (lv_at hl 0 rfl) ?_
      refine gr_X7_45 cx hw (lNC_is h0) (lNC_line h0) (lNC_line_L h0) dX7_row_22 ?_
      refine nc_alen (v := 6) cx hw (lNC_line_L h0) rfl dX7_row_25 ?_
      refine lv_icmp_lt (tgt := 36) hx hb dX7_row_26 (by decide) (fun c5 => ?_) (fun c5 => ?_)
      · have hf := nc_ifp hf c5
        refine lv_aload_n hx hb dX7_row_36 rfl (lv_at hl 0 rfl) ?_
        refine gr_X7_45 cx hw (lNC_is h0) (lNC_line h0) (lNC_line_L h0) dX7_row_37 ?_
        refine lv_aload_n hx hb dX7_row_40 rfl (lv_at hl 0 rfl) ?_
        refine gi_X7_52 cx hw (lNC_is h0) dX7_row_41 ?_
        refine lv_iload_n hx hb dX7_row_44 rfl (lv_at hl 1 rfl) ?_
        obtain ⟨j6, ej6, ij6, lj6, hf⟩ := nc_ix hf
        refine nc_ist cx hw (lNC_line_L h0) ij6 ej6 dX7_row_45 (fun mi7 H locs emi7 hw => ?_)
        have hf := nc_let_at hf emi7
        refine lv_aload_n hx hb dX7_row_46 rfl (lv_at hl 0 rfl) ?_
        refine lv_dup hx hb dX7_row_47 rfl ?_
        refine gi_X7_52 cx hw (lNC_is h0) dX7_row_48 ?_
        refine lv_iconst (v := 1) hx hb dX7_row_51 (by decide) ?_
        refine lv_iadd hx hb dX7_row_52 ?_
        refine pi_X7_52 cx hw (lNC_is h0) dX7_row_53 (fun mi8 H locs emi8 hw => ?_)
        have hf := nc_let_at hf emi8
        refine lv_aload_n hx hb dX7_row_56 rfl (lv_at hl 0 rfl) ?_
        refine gi_X7_52 cx hw (lNC_is h0) dX7_row_57 ?_
        exact nc_rpm hret hf rfl hw dX7_row_60
      · have hf := nc_ifn hf c5
        exact hk2 hf _ _ _ hw (lv_sub hl [0] rfl)
  · have hf := nc_ifn hf c1
    refine lv_aload_n hx hb dX7_row_4 rfl (lv_at hl 0 rfl) ?_
    refine lv_bipush (v := (-4)) hx hb dX7_row_5 (by decide) ?_
    obtain ⟨q9, hq9, hf⟩ := nc_bi hf
    refine nc_callVi cx hw lk_X7_60 (c_X7_refuse l h0 mi (-4) q9 hq9) (ci := 7) rfl (lNC_is h0) rfl hl.1 rfl (Nat.le_of_ble_eq_true rfl) ⟨rfl, rfl, Nat.le_of_ble_eq_true rfl, Nat.le_of_ble_eq_true rfl⟩ dX7_row_7 (fun H locs hw => ?_)
    exact nc_rpm hret hf rfl hw dX7_row_10
abbrev rm_X7_firstBadInLine : Room := { frames := 3, cells := 0, slots := 0, locals := 71 }
set_option maxRecDepth 100000 in
set_option maxHeartbeats 4000000 in
theorem c_X7_firstBadInLine (l : Launch) {G : nc_G} {K : nc_K} {o : Nat} (h0 : nc_LNC G K o) (mi : nc_Mem)  (res : Int32) (hf : f_X7_firstBadInLine mi o = some res) : nc_M l yX7_firstBadInLine cX7_firstBadInLine 4 (some .int) rm_X7_firstBadInLine 0 0 G K K [.ref o] mi mi (some (.int res)) := by
  refine nc_meet_i (by decide) (Nat.le_of_ble_eq_true rfl) ?_
  intro p e s m args below meth c Q H locs ls cx hret hw hl
  have cx : nc_C p s m args c cX7_firstBadInLine 4 RX7 G := cx
  have hl : lv_has ls 4 [(0, .ref o)] := hl
  have hx := cx.1
  have hb := cx.2.1
  unfold f_X7_firstBadInLine at hf
  refine lv_iconst (v := 0) hx hb dX7_firstBadInLine_0 (by decide) ?_
  refine lv_istore_n (lv' := [(1, .int 0), (0, .ref o)]) hx hb dX7_firstBadInLine_1 rfl hl (by decide) rfl (fun ls hl => ?_)
  refine lv_iconst (v := 0) hx hb dX7_firstBadInLine_2 (by decide) ?_
  refine lv_istore_n (lv' := [(2, .int 0), (1, .int 0), (0, .ref o)]) hx hb dX7_firstBadInLine_3 rfl hl (by decide) rfl (fun ls hl => ?_)
  obtain ⟨k1, ek1, hf⟩ := nc_jn_of hf
  have hk1 : k1 = some res → ∀ (H : Heap) (locs : List Loc) (ls : Array Slot), nc_W G K mi H locs → lv_has ls 4 [(0, .ref o)] → W p l e rm_X7_firstBadInLine s m args below meth c H locs 0 0 Q (F0 m 86 ls []) := by
    intro hf H locs ls hw hl
    have hf := (ek1).symm.trans hf
    refine lv_aload_n hx hb dX7_firstBadInLine_86 rfl (lv_at hl 0 rfl) ?_
    refine gi_X7_52 cx hw (lNC_is h0) dX7_firstBadInLine_87 ?_
    refine lv_aload_n hx hb dX7_firstBadInLine_90 rfl (lv_at hl 0 rfl) ?_
    refine gr_X7_10 cx hw (lNC_is h0) (lNC_now h0) (lTown_is (lNC_now_L h0)) dX7_firstBadInLine_91 ?_
    refine gi_X7_140 cx hw (lTown_is (lNC_now_L h0)) dX7_firstBadInLine_94 ?_
    refine lv_icmp_ne (tgt := 105) hx hb dX7_firstBadInLine_97 (by decide) (fun c2 => ?_) (fun c2 => ?_)
    · have hf := nc_ifn hf c2
      refine lv_aload_n hx hb dX7_firstBadInLine_105 rfl (lv_at hl 0 rfl) ?_
      refine gi_X7_52 cx hw (lNC_is h0) dX7_firstBadInLine_106 ?_
      refine lv_aload_n hx hb dX7_firstBadInLine_109 rfl (lv_at hl 0 rfl) ?_
      refine gr_X7_10 cx hw (lNC_is h0) (lNC_now h0) (lTown_is (lNC_now_L h0)) dX7_firstBadInLine_110 ?_
      refine gi_X7_140 cx hw (lTown_is (lNC_now_L h0)) dX7_firstBadInLine_113 ?_
      refine nc_mn cx hl.1 (nc_w 831 (by decide +kernel) rfl) ⟨Nat.le_of_ble_eq_true rfl, Nat.le_of_ble_eq_true rfl⟩ dX7_firstBadInLine_116 ?_
      exact nc_rpp hret hf rfl hw dX7_firstBadInLine_119
    · have hf := nc_ifp hf c2
      refine lv_bipush (v := (-9)) hx hb dX7_firstBadInLine_100 (by decide) ?_
      refine lv_goto (tgt := 119) hx hb dX7_firstBadInLine_102 (by decide) ?_
      exact nc_rpp hret hf rfl hw dX7_firstBadInLine_119
  refine nc_loop_w (P := fun κ : Int32 → Int32 → Option (Int32) => ∀ (x3 : Int32) (x4 : Int32), κ x3 x4 = some res → ∀ (H : Heap) (locs : List Loc) (ls : Array Slot), nc_W G K mi H locs → lv_has ls 4 [(0, .ref o), (1, .int x3), (2, .int x4)] → W p l e rm_X7_firstBadInLine s m args below meth c H locs 0 0 Q (F0 m 4 ls [])) ?_ ?_ 200 _ _ hf _ _ _ hw (lv_sub hl [2, 1, 0] rfl)
  · intro x3 x4 hf; exact absurd hf (by intro q; cases q)
  · intro rc5 ihrc5 x3 x4 hf H locs ls hw hl
    unfold B_X7_firstBadInLine_4 at hf
    refine lv_iload_n hx hb dX7_firstBadInLine_4 rfl (lv_at hl 2 rfl) ?_
    refine lv_aload_n hx hb dX7_firstBadInLine_5 rfl (lv_at hl 0 rfl) ?_
    refine gr_X7_10 cx hw (lNC_is h0) (lNC_now h0) (lTown_is (lNC_now_L h0)) dX7_firstBadInLine_6 ?_
    refine gi_X7_140 cx hw (lTown_is (lNC_now_L h0)) dX7_firstBadInLine_9 ?_
    refine lv_icmp_ge (tgt := 86) hx hb dX7_firstBadInLine_12 (by decide) (fun c6 => ?_) (fun c6 => ?_)
    · have hf := nc_ifp hf c6
      exact hk1 hf _ _ _ hw (lv_sub hl [0] rfl)
    · have hf := nc_ifn hf c6
      refine lv_iload_n hx hb dX7_firstBadInLine_15 rfl (lv_at hl 2 rfl) ?_
      refine lv_aload_n hx hb dX7_firstBadInLine_16 rfl (lv_at hl 0 rfl) ?_
      refine gi_X7_52 cx hw (lNC_is h0) dX7_firstBadInLine_17 ?_
      refine lv_icmp_ge (tgt := 86) hx hb dX7_firstBadInLine_20 (by decide) (fun c7 => ?_) (fun c7 => ?_)
      · have hf := nc_ifp hf c7
        exact hk1 hf _ _ _ hw (lv_sub hl [0] rfl)
      · have hf := nc_ifn hf c7
        refine lv_aload_n hx hb dX7_firstBadInLine_23 rfl (lv_at hl 0 rfl) ?_
        refine gr_X7_45 cx hw (lNC_is h0) (lNC_line h0) (lNC_line_L h0) dX7_firstBadInLine_24 ?_
        refine lv_iload_n hx hb dX7_firstBadInLine_27 rfl (lv_at hl 2 rfl) ?_
        obtain ⟨j8, ej8, ij8, lj8, hf⟩ := nc_ix hf
        refine nc_ild cx hw (lNC_line_L h0) ij8 ej8 dX7_firstBadInLine_28 ?_
        refine lv_topi (fun x9 ex9 => ?_)
        have hf := nc_let_at hf ex9
        refine lv_istore_n (lv' := [(3, .int x9), (0, .ref o), (1, .int x3), (2, .int x4)]) hx hb dX7_firstBadInLine_29 rfl hl (by decide) rfl (fun ls hl => ?_)
        refine lv_iload_n hx hb dX7_firstBadInLine_30 rfl (lv_at hl 0 rfl) ?_
        refine lv_bipush (v := 9) hx hb dX7_firstBadInLine_31 (by decide) ?_
        refine lv_icmp_ne (tgt := 39) hx hb dX7_firstBadInLine_33 (by decide) (fun c10 => ?_) (fun c10 => ?_)
        · have hf := nc_ifn hf c10
          refine lv_aload_n hx hb dX7_firstBadInLine_39 rfl (lv_at hl 1 rfl) ?_
          refine gr_X7_10 cx hw (lNC_is h0) (lNC_now h0) (lTown_is (lNC_now_L h0)) dX7_firstBadInLine_40 ?_
          refine lv_iload_n hx hb dX7_firstBadInLine_43 rfl (lv_at hl 0 rfl) ?_
          refine nc_callVi cx hw lk_X7_86 (c_X5_isPerson l (lNC_now_L h0) mi x9 _ rfl) (ci := 5) rfl (lTown_is (lNC_now_L h0)) rfl hl.1 rfl (Nat.le_of_ble_eq_true rfl) ⟨rfl, rfl, Nat.le_of_ble_eq_true rfl, Nat.le_of_ble_eq_true rfl⟩ dX7_firstBadInLine_44 (fun H locs hw => ?_)
          refine lv_if_eq (tgt := 72) hx hb dX7_firstBadInLine_47 (by decide) (fun c11 => ?_) (fun c11 => ?_)
          · have hf := nc_ifp hf c11
            refine lv_iload_n hx hb dX7_firstBadInLine_72 rfl (lv_at hl 3 rfl) ?_
            exact nc_rpp hret hf rfl hw dX7_firstBadInLine_73
          · have hf := nc_ifn hf c11
            refine lv_iload_n hx hb dX7_firstBadInLine_50 rfl (lv_at hl 2 rfl) ?_
            refine lv_iload_n hx hb dX7_firstBadInLine_51 rfl (lv_at hl 0 rfl) ?_
            refine lv_ishr hx hb dX7_firstBadInLine_52 ?_
            refine lv_iconst (v := 1) hx hb dX7_firstBadInLine_53 (by decide) ?_
            refine lv_iand hx hb dX7_firstBadInLine_54 ?_
            refine lv_if_ne (tgt := 72) hx hb dX7_firstBadInLine_55 (by decide) (fun c12 => ?_) (fun c12 => ?_)
            · have hf := nc_ifn hf c12
              refine lv_iload_n hx hb dX7_firstBadInLine_72 rfl (lv_at hl 3 rfl) ?_
              exact nc_rpp hret hf rfl hw dX7_firstBadInLine_73
            · have hf := nc_ifp hf c12
              refine lv_aload_n hx hb dX7_firstBadInLine_58 rfl (lv_at hl 1 rfl) ?_
              refine gr_X7_10 cx hw (lNC_is h0) (lNC_now h0) (lTown_is (lNC_now_L h0)) dX7_firstBadInLine_59 ?_
              refine lv_iload_n hx hb dX7_firstBadInLine_62 rfl (lv_at hl 0 rfl) ?_
              refine lv_iload_n hx hb dX7_firstBadInLine_63 rfl (lv_at hl 3 rfl) ?_
              obtain ⟨q13, hq13, hf⟩ := nc_bi hf
              refine nc_callVi cx hw lk_X7_180 (c_X5_roundMinute l (lNC_now_L h0) mi x9 x4 q13 hq13) (ci := 5) rfl (lTown_is (lNC_now_L h0)) rfl hl.1 rfl (Nat.le_of_ble_eq_true rfl) ⟨rfl, rfl, Nat.le_of_ble_eq_true rfl, Nat.le_of_ble_eq_true rfl⟩ dX7_firstBadInLine_64 (fun H locs hw => ?_)
              refine lv_bipush (v := (-9)) hx hb dX7_firstBadInLine_67 (by decide) ?_
              refine lv_icmp_ne (tgt := 74) hx hb dX7_firstBadInLine_69 (by decide) (fun c14 => ?_) (fun c14 => ?_)
              · have hf := nc_ifn hf c14
                refine lv_iload_n hx hb dX7_firstBadInLine_74 rfl (lv_at hl 2 rfl) ?_
                refine lv_iconst (v := 1) hx hb dX7_firstBadInLine_75 (by decide) ?_
                refine lv_iload_n hx hb dX7_firstBadInLine_76 rfl (lv_at hl 0 rfl) ?_
                refine lv_ishl hx hb dX7_firstBadInLine_77 ?_
                refine lv_ior hx hb dX7_firstBadInLine_78 ?_
                refine lv_topi (fun x15 ex15 => ?_)
                have hf := nc_let_at hf ex15
                refine lv_istore_n (lv' := [(1, .int x15), (3, .int x9), (0, .ref o), (2, .int x4)]) hx hb dX7_firstBadInLine_79 rfl hl (by decide) rfl (fun ls hl => ?_)
                obtain ⟨x16, ex16⟩ : ∃ y : Int32, y = x4 + 1 := ⟨_, rfl⟩
                have hf := nc_let_at hf ex16
                refine lv_iinc (v := x16) (lv' := [(2, .int x16), (1, .int x15), (3, .int x9), (0, .ref o)]) hx hb dX7_firstBadInLine_80 hl (k := 3) rfl (by rw [ex16]; rfl) (by decide) rfl (fun ls hl => ?_)
                refine lv_goto (tgt := 4) hx hb dX7_firstBadInLine_83 (by decide) ?_
                exact ihrc5 _ _ hf _ _ _ hw (lv_sub hl [3, 1, 0] rfl)
              · have hf := nc_ifp hf c14
                refine lv_iload_n hx hb dX7_firstBadInLine_72 rfl (lv_at hl 3 rfl) ?_
                exact nc_rpp hret hf rfl hw dX7_firstBadInLine_73
        · have hf := nc_ifp hf c10
          refine lv_goto (tgt := 80) hx hb dX7_firstBadInLine_36 (by decide) ?_
          obtain ⟨x17, ex17⟩ : ∃ y : Int32, y = x4 + 1 := ⟨_, rfl⟩
          have hf := nc_let_at hf ex17
          refine lv_iinc (v := x17) (lv' := [(2, .int x17), (3, .int x9), (0, .ref o), (1, .int x3)]) hx hb dX7_firstBadInLine_80 hl (k := 3) rfl (by rw [ex17]; rfl) (by decide) rfl (fun ls hl => ?_)
          refine lv_goto (tgt := 4) hx hb dX7_firstBadInLine_83 (by decide) ?_
          exact ihrc5 _ _ hf _ _ _ hw (lv_sub hl [2, 3, 0] rfl)
abbrev rm_X7_judge : Room := { frames := 4, cells := 0, slots := 0, locals := 94 }
set_option maxRecDepth 100000 in
set_option maxHeartbeats 4000000 in
theorem c_X7_judge (l : Launch) {G : nc_G} {K : nc_K} {o : Nat} (h0 : nc_LNC G K o) (mi : nc_Mem)  (res : nc_Mem × Int32) (hf : f_X7_judge mi o = some res) : nc_M l yX7_judge cX7_judge 2 (some .int) rm_X7_judge 0 0 G K K [.ref o] mi res.1 (some (.int res.2)) := by
  refine nc_meet_i (by decide) (Nat.le_of_ble_eq_true rfl) ?_
  intro p e s m args below meth c Q H locs ls cx hret hw hl
  have cx : nc_C p s m args c cX7_judge 2 RX7 G := cx
  have hl : lv_has ls 2 [(0, .ref o)] := hl
  have hx := cx.1
  have hb := cx.2.1
  unfold f_X7_judge at hf
  refine lv_aload_n hx hb dX7_judge_0 rfl (lv_at hl 0 rfl) ?_
  obtain ⟨q1, hq1, hf⟩ := nc_bi hf
  refine nc_callVi cx hw lk_X7_211 (c_X7_firstBadInLine l h0 mi  q1 hq1) (ci := 7) rfl (lNC_is h0) rfl hl.1 rfl (Nat.le_of_ble_eq_true rfl) ⟨rfl, rfl, Nat.le_of_ble_eq_true rfl, Nat.le_of_ble_eq_true rfl⟩ dX7_judge_1 (fun H locs hw => ?_)
  refine lv_istore_n (lv' := [(1, .int q1), (0, .ref o)]) hx hb dX7_judge_4 rfl hl (by decide) rfl (fun ls hl => ?_)
  refine lv_aload_n hx hb dX7_judge_5 rfl (lv_at hl 1 rfl) ?_
  refine lv_iconst (v := 0) hx hb dX7_judge_6 (by decide) ?_
  refine pi_X7_52 cx hw (lNC_is h0) dX7_judge_7 (fun mi2 H locs emi2 hw => ?_)
  have hf := nc_let_at hf emi2
  refine lv_iload_n hx hb dX7_judge_10 rfl (lv_at hl 0 rfl) ?_
  exact nc_rpm hret hf rfl hw dX7_judge_11
abbrev rm_X7_image : Room := { frames := 2, cells := 0, slots := 0, locals := 82 }
set_option maxRecDepth 100000 in
set_option maxHeartbeats 4000000 in
theorem c_X7_image (l : Launch) {G : nc_G} {K : nc_K} {o : Nat} (h0 : nc_LNC G K o) (mi : nc_Mem)  (res : nc_Mem × Int32) (hf : f_X7_image mi o = some res) : nc_M l yX7_image cX7_image 1 (some .int) rm_X7_image 0 0 G K K [.ref o] mi res.1 (some (.int res.2)) := by
  refine nc_meet_i (by decide) (Nat.le_of_ble_eq_true rfl) ?_
  intro p e s m args below meth c Q H locs ls cx hret hw hl
  have cx : nc_C p s m args c cX7_image 1 RX7 G := cx
  have hl : lv_has ls 1 [(0, .ref o)] := hl
  have hx := cx.1
  have hb := cx.2.1
  unfold f_X7_image at hf
  refine lv_aload_n hx hb dX7_image_0 rfl (lv_at hl 0 rfl) ?_
  refine gr_X7_19 cx hw (lNC_is h0) (lNC_kept h0) (lTown_is (lNC_kept_L h0)) dX7_image_1 ?_
  refine lv_aload_n hx hb dX7_image_4 rfl (lv_at hl 0 rfl) ?_
  refine gr_X7_10 cx hw (lNC_is h0) (lNC_now h0) (lTown_is (lNC_now_L h0)) dX7_image_5 ?_
  obtain ⟨q1, hq1, hf⟩ := nc_bi hf
  refine nc_callVv cx hw lk_X7_214 (c_X5_becomeLike l (lNC_kept_L h0) (lNC_now_L h0) mi  q1 hq1) (ci := 5) rfl (lTown_is (lNC_kept_L h0)) rfl hl.1 rfl (Nat.le_of_ble_eq_true rfl) ⟨rfl, rfl, Nat.le_of_ble_eq_true rfl, Nat.le_of_ble_eq_true rfl⟩ dX7_image_8 (fun H locs hw => ?_)
  refine lv_aload_n hx hb dX7_image_11 rfl (lv_at hl 0 rfl) ?_
  refine lv_iconst (v := 1) hx hb dX7_image_12 (by decide) ?_
  refine pi_X7_56 cx hw (lNC_is h0) rfl rfl dX7_image_13 (fun mi2 H locs emi2 hw => ?_)
  have hf := nc_let_at hf emi2
  refine lv_aload_n hx hb dX7_image_16 rfl (lv_at hl 0 rfl) ?_
  refine gr_X7_10 cx hw (lNC_is h0) (lNC_now h0) (lTown_is (lNC_now_L h0)) dX7_image_17 ?_
  refine gi_X7_140 cx hw (lTown_is (lNC_now_L h0)) dX7_image_20 ?_
  exact nc_rpm hret hf rfl hw dX7_image_23
abbrev rm_X7_on : Room := { frames := 2, cells := 0, slots := 0, locals := 82 }
set_option maxRecDepth 100000 in
set_option maxHeartbeats 4000000 in
theorem c_X7_on (l : Launch) {G : nc_G} {K : nc_K} {o : Nat} (h0 : nc_LNC G K o) (mi : nc_Mem)  (res : nc_Mem × Int32) (hf : f_X7_on mi o = some res) : nc_M l yX7_on cX7_on 1 (some .int) rm_X7_on 0 0 G K K [.ref o] mi res.1 (some (.int res.2)) := by
  refine nc_meet_i (by decide) (Nat.le_of_ble_eq_true rfl) ?_
  intro p e s m args below meth c Q H locs ls cx hret hw hl
  have cx : nc_C p s m args c cX7_on 1 RX7 G := cx
  have hl : lv_has ls 1 [(0, .ref o)] := hl
  have hx := cx.1
  have hb := cx.2.1
  unfold f_X7_on at hf
  refine lv_aload_n hx hb dX7_on_0 rfl (lv_at hl 0 rfl) ?_
  refine gi_X7_56 cx hw (lNC_is h0) dX7_on_1 ?_
  refine lv_if_ne (tgt := 14) hx hb dX7_on_4 (by decide) (fun c1 => ?_) (fun c1 => ?_)
  · have hf := nc_ifn hf c1
    refine lv_aload_n hx hb dX7_on_14 rfl (lv_at hl 0 rfl) ?_
    refine gr_X7_10 cx hw (lNC_is h0) (lNC_now h0) (lTown_is (lNC_now_L h0)) dX7_on_15 ?_
    refine lv_aload_n hx hb dX7_on_18 rfl (lv_at hl 0 rfl) ?_
    refine gr_X7_19 cx hw (lNC_is h0) (lNC_kept h0) (lTown_is (lNC_kept_L h0)) dX7_on_19 ?_
    obtain ⟨q2, hq2, hf⟩ := nc_bi hf
    refine nc_callVv cx hw lk_X7_214 (c_X5_becomeLike l (lNC_now_L h0) (lNC_kept_L h0) mi  q2 hq2) (ci := 5) rfl (lTown_is (lNC_now_L h0)) rfl hl.1 rfl (Nat.le_of_ble_eq_true rfl) ⟨rfl, rfl, Nat.le_of_ble_eq_true rfl, Nat.le_of_ble_eq_true rfl⟩ dX7_on_22 (fun H locs hw => ?_)
    refine lv_aload_n hx hb dX7_on_25 rfl (lv_at hl 0 rfl) ?_
    refine gr_X7_10 cx hw (lNC_is h0) (lNC_now h0) (lTown_is (lNC_now_L h0)) dX7_on_26 ?_
    refine gi_X7_140 cx hw (lTown_is (lNC_now_L h0)) dX7_on_29 ?_
    exact nc_rpm hret hf rfl hw dX7_on_32
  · have hf := nc_ifp hf c1
    refine lv_aload_n hx hb dX7_on_7 rfl (lv_at hl 0 rfl) ?_
    refine lv_bipush (v := (-3)) hx hb dX7_on_8 (by decide) ?_
    obtain ⟨q3, hq3, hf⟩ := nc_bi hf
    refine nc_callVi cx hw lk_X7_60 (c_X7_refuse l h0 mi (-3) q3 hq3) (ci := 7) rfl (lNC_is h0) rfl hl.1 rfl (Nat.le_of_ble_eq_true rfl) ⟨rfl, rfl, Nat.le_of_ble_eq_true rfl, Nat.le_of_ble_eq_true rfl⟩ dX7_on_10 (fun H locs hw => ?_)
    exact nc_rpm hret hf rfl hw dX7_on_13
abbrev rm_X5_carriedThings : Room := { frames := 0, cells := 0, slots := 0, locals := 0 }
set_option maxRecDepth 100000 in
set_option maxHeartbeats 4000000 in
theorem c_X5_carriedThings (l : Launch) {G : nc_G} {K : nc_K} {o : Nat} (h0 : nc_LTown G K o) (mi : nc_Mem)  (res : Int32) (hf : f_X5_carriedThings mi o = some res) : nc_M l yX5_carriedThings cX5_carriedThings 3 (some .int) rm_X5_carriedThings 0 0 G K K [.ref o] mi mi (some (.int res)) := by
  refine nc_meet_i (by decide) (Nat.le_of_ble_eq_true rfl) ?_
  intro p e s m args below meth c Q H locs ls cx hret hw hl
  have cx : nc_C p s m args c cX5_carriedThings 3 RX5 G := cx
  have hl : lv_has ls 3 [(0, .ref o)] := hl
  have hx := cx.1
  have hb := cx.2.1
  unfold f_X5_carriedThings at hf
  refine lv_iconst (v := 0) hx hb dX5_carriedThings_0 (by decide) ?_
  refine lv_istore_n (lv' := [(1, .int 0), (0, .ref o)]) hx hb dX5_carriedThings_1 rfl hl (by decide) rfl (fun ls hl => ?_)
  refine lv_iconst (v := 0) hx hb dX5_carriedThings_2 (by decide) ?_
  refine lv_istore_n (lv' := [(2, .int 0), (1, .int 0), (0, .ref o)]) hx hb dX5_carriedThings_3 rfl hl (by decide) rfl (fun ls hl => ?_)
  refine nc_loop_w (P := fun κ : Int32 → Int32 → Option (Int32) => ∀ (x1 : Int32) (x2 : Int32), κ x1 x2 = some res → ∀ (H : Heap) (locs : List Loc) (ls : Array Slot), nc_W G K mi H locs → lv_has ls 3 [(0, .ref o), (1, .int x1), (2, .int x2)] → W p l e rm_X5_carriedThings s m args below meth c H locs 0 0 Q (F0 m 4 ls [])) ?_ ?_ 200 _ _ hf _ _ _ hw (lv_sub hl [2, 1, 0] rfl)
  · intro x1 x2 hf; exact absurd hf (by intro q; cases q)
  · intro rc3 ihrc3 x1 x2 hf H locs ls hw hl
    unfold B_X5_carriedThings_4 at hf
    refine lv_iload_n hx hb dX5_carriedThings_4 rfl (lv_at hl 2 rfl) ?_
    refine lv_aload_n hx hb dX5_carriedThings_5 rfl (lv_at hl 0 rfl) ?_
    refine gi_X5_55 cx hw (lTown_is h0) dX5_carriedThings_6 ?_
    refine lv_icmp_ge (tgt := 35) hx hb dX5_carriedThings_9 (by decide) (fun c4 => ?_) (fun c4 => ?_)
    · have hf := nc_ifp hf c4
      refine lv_iload_n hx hb dX5_carriedThings_35 rfl (lv_at hl 1 rfl) ?_
      exact nc_rpp hret hf rfl hw dX5_carriedThings_36
    · have hf := nc_ifn hf c4
      refine lv_aload_n hx hb dX5_carriedThings_12 rfl (lv_at hl 0 rfl) ?_
      refine gr_X5_19 cx hw (lTown_is h0) (lTown_goods h0) (lTown_goods_L h0) dX5_carriedThings_13 ?_
      refine lv_iload_n hx hb dX5_carriedThings_16 rfl (lv_at hl 2 rfl) ?_
      obtain ⟨j5, ej5, ij5, lj5, hf⟩ := nc_ix hf
      refine nc_ald cx hw (by decide) (lTown_goods_L h0) ij5 ej5 ((lTown_goods_E h0 j5 lj5)).1 (lThing_is ((lTown_goods_E h0 j5 lj5)).2) dX5_carriedThings_17 ?_
      refine gi_X5_97 cx hw (lThing_is ((lTown_goods_E h0 j5 lj5)).2) dX5_carriedThings_18 ?_
      refine lv_bipush (v := 10) hx hb dX5_carriedThings_21 (by decide) ?_
      refine lv_icmp_lt (tgt := 29) hx hb dX5_carriedThings_23 (by decide) (fun c6 => ?_) (fun c6 => ?_)
      · have hf := nc_ifp hf c6
        obtain ⟨x7, ex7⟩ : ∃ y : Int32, y = x2 + 1 := ⟨_, rfl⟩
        have hf := nc_let_at hf ex7
        refine lv_iinc (v := x7) (lv' := [(2, .int x7), (0, .ref o), (1, .int x1)]) hx hb dX5_carriedThings_29 hl (k := 2) rfl (by rw [ex7]; rfl) (by decide) rfl (fun ls hl => ?_)
        refine lv_goto (tgt := 4) hx hb dX5_carriedThings_32 (by decide) ?_
        exact ihrc3 _ _ hf _ _ _ hw (lv_sub hl [1, 2, 0] rfl)
      · have hf := nc_ifn hf c6
        obtain ⟨x8, ex8⟩ : ∃ y : Int32, y = x1 + 1 := ⟨_, rfl⟩
        have hf := nc_let_at hf ex8
        refine lv_iinc (v := x8) (lv' := [(1, .int x8), (0, .ref o), (2, .int x2)]) hx hb dX5_carriedThings_26 hl (k := 1) rfl (by rw [ex8]; rfl) (by decide) rfl (fun ls hl => ?_)
        obtain ⟨x9, ex9⟩ : ∃ y : Int32, y = x2 + 1 := ⟨_, rfl⟩
        have hf := nc_let_at hf ex9
        refine lv_iinc (v := x9) (lv' := [(2, .int x9), (1, .int x8), (0, .ref o)]) hx hb dX5_carriedThings_29 hl (k := 2) rfl (by rw [ex9]; rfl) (by decide) rfl (fun ls hl => ?_)
        refine lv_goto (tgt := 4) hx hb dX5_carriedThings_32 (by decide) ?_
        exact ihrc3 _ _ hf _ _ _ hw (lv_sub hl [2, 1, 0] rfl)
abbrev rm_X7_count : Room := { frames := 1, cells := 0, slots := 0, locals := 22 }
set_option maxRecDepth 100000 in
set_option maxHeartbeats 4000000 in
theorem c_X7_count (l : Launch) {G : nc_G} {K : nc_K} {o : Nat} (h0 : nc_LNC G K o) (mi : nc_Mem) (a1 : Int32) (res : Int32) (hf : f_X7_count mi o a1 = some res) : nc_M l yX7_count cX7_count 2 (some .int) rm_X7_count 0 0 G K K [.ref o, .int a1] mi mi (some (.int res)) := by
  refine nc_meet_i (by decide) (Nat.le_of_ble_eq_true rfl) ?_
  intro p e s m args below meth c Q H locs ls cx hret hw hl
  have cx : nc_C p s m args c cX7_count 2 RX7 G := cx
  have hl : lv_has ls 2 [(0, .ref o), (1, .int a1)] := hl
  have hx := cx.1
  have hb := cx.2.1
  unfold f_X7_count at hf
  refine lv_iload_n hx hb dX7_count_0 rfl (lv_at hl 1 rfl) ?_
  refine lv_bipush (v := 10) hx hb dX7_count_1 (by decide) ?_
  obtain ⟨k1, ek1, hf⟩ := nc_jn_of hf
  have hk1 : k1 = some res → ∀ (H : Heap) (locs : List Loc) (ls : Array Slot), nc_W G K mi H locs → lv_has ls 2 [(0, .ref o), (1, .int a1)] → W p l e rm_X7_count s m args below meth c H locs 0 0 Q (F0 m 28 ls []) := by
    intro hf H locs ls hw hl
    have hf := (ek1).symm.trans hf
    refine lv_iload_n hx hb dX7_count_28 rfl (lv_at hl 1 rfl) ?_
    by_cases c2 : a1 = 0
    · have hf := nc_ifp hf c2
      refine lv_tableIn (tgt := 68) (off := 39) hx hb dX7_count_29 (by rw [c2]; decide) (by rw [c2]; decide) (by rw [c2]; rfl) (by decide) ?_
      refine lv_aload_n hx hb dX7_count_68 rfl (lv_at hl 0 rfl) ?_
      refine gr_X7_10 cx hw (lNC_is h0) (lNC_now h0) (lTown_is (lNC_now_L h0)) dX7_count_69 ?_
      refine gi_X7_217 cx hw (lTown_is (lNC_now_L h0)) dX7_count_72 ?_
      exact nc_rpp hret hf rfl hw dX7_count_75
    · have hf := nc_ifn hf c2
      by_cases c3 : a1 = 1
      · have hf := nc_ifp hf c3
        refine lv_tableIn (tgt := 76) (off := 47) hx hb dX7_count_29 (by rw [c3]; decide) (by rw [c3]; decide) (by rw [c3]; rfl) (by decide) ?_
        refine lv_aload_n hx hb dX7_count_76 rfl (lv_at hl 0 rfl) ?_
        refine gr_X7_10 cx hw (lNC_is h0) (lNC_now h0) (lTown_is (lNC_now_L h0)) dX7_count_77 ?_
        refine gi_X7_220 cx hw (lTown_is (lNC_now_L h0)) dX7_count_80 ?_
        exact nc_rpp hret hf rfl hw dX7_count_83
      · have hf := nc_ifn hf c3
        by_cases c4 : a1 = 2
        · have hf := nc_ifp hf c4
          refine lv_tableIn (tgt := 84) (off := 55) hx hb dX7_count_29 (by rw [c4]; decide) (by rw [c4]; decide) (by rw [c4]; rfl) (by decide) ?_
          refine lv_aload_n hx hb dX7_count_84 rfl (lv_at hl 0 rfl) ?_
          refine gr_X7_10 cx hw (lNC_is h0) (lNC_now h0) (lTown_is (lNC_now_L h0)) dX7_count_85 ?_
          refine gi_X7_140 cx hw (lTown_is (lNC_now_L h0)) dX7_count_88 ?_
          exact nc_rpp hret hf rfl hw dX7_count_91
        · have hf := nc_ifn hf c4
          by_cases c5 : a1 = 3
          · have hf := nc_ifp hf c5
            refine lv_tableIn (tgt := 92) (off := 63) hx hb dX7_count_29 (by rw [c5]; decide) (by rw [c5]; decide) (by rw [c5]; rfl) (by decide) ?_
            refine lv_aload_n hx hb dX7_count_92 rfl (lv_at hl 0 rfl) ?_
            refine gr_X7_10 cx hw (lNC_is h0) (lNC_now h0) (lTown_is (lNC_now_L h0)) dX7_count_93 ?_
            obtain ⟨q6, hq6, hf⟩ := nc_bi hf
            refine nc_callVi cx hw lk_X7_223 (c_X5_carriedThings l (lNC_now_L h0) mi  q6 hq6) (ci := 5) rfl (lTown_is (lNC_now_L h0)) rfl hl.1 rfl (Nat.le_of_ble_eq_true rfl) ⟨rfl, rfl, Nat.le_of_ble_eq_true rfl, Nat.le_of_ble_eq_true rfl⟩ dX7_count_96 (fun H locs hw => ?_)
            exact nc_rpp hret hf rfl hw dX7_count_99
          · have hf := nc_ifn hf c5
            by_cases c7 : a1 = 4
            · have hf := nc_ifp hf c7
              refine lv_tableIn (tgt := 100) (off := 71) hx hb dX7_count_29 (by rw [c7]; decide) (by rw [c7]; decide) (by rw [c7]; rfl) (by decide) ?_
              refine lv_aload_n hx hb dX7_count_100 rfl (lv_at hl 0 rfl) ?_
              refine gi_X7_52 cx hw (lNC_is h0) dX7_count_101 ?_
              exact nc_rpp hret hf rfl hw dX7_count_104
            · have hf := nc_ifn hf c7
              by_cases c8 : a1 = 5
              · have hf := nc_ifp hf c8
                refine lv_tableIn (tgt := 105) (off := 76) hx hb dX7_count_29 (by rw [c8]; decide) (by rw [c8]; decide) (by rw [c8]; rfl) (by decide) ?_
                refine lv_aload_n hx hb dX7_count_105 rfl (lv_at hl 0 rfl) ?_
                refine gr_X7_25 cx hw (lNC_is h0) (lNC_letters h0) (lLetters_is (lNC_letters_L h0)) dX7_count_106 ?_
                refine gi_X7_68 cx hw (lLetters_is (lNC_letters_L h0)) dX7_count_109 ?_
                exact nc_rpp hret hf rfl hw dX7_count_112
              · have hf := nc_ifn hf c8
                refine lv_tableOut (tgt := 113) hx hb dX7_count_29 (by have nc2 := lv_neT (a := 0) c2 (by decide); have nc3 := lv_neT (a := 1) c3 (by decide); have nc4 := lv_neT (a := 2) c4 (by decide); have nc5 := lv_neT (a := 3) c5 (by decide); have nc7 := lv_neT (a := 4) c7 (by decide); have nc8 := lv_neT (a := 5) c8 (by decide); omega) (by decide) ?_
                refine lv_bipush (v := (-9)) hx hb dX7_count_113 (by decide) ?_
                exact nc_rpp hret hf rfl hw dX7_count_115
  refine lv_icmp_le (tgt := 28) hx hb dX7_count_3 (by decide) (fun c9 => ?_) (fun c9 => ?_)
  · have hf := nc_ifp hf c9
    exact hk1 hf _ _ _ hw (lv_sub hl [0, 1] rfl)
  · have hf := nc_ifn hf c9
    refine lv_iload_n hx hb dX7_count_6 rfl (lv_at hl 1 rfl) ?_
    refine lv_bipush (v := 10) hx hb dX7_count_7 (by decide) ?_
    refine lv_aload_n hx hb dX7_count_9 rfl (lv_at hl 0 rfl) ?_
    refine gr_X7_49 cx hw (lNC_is h0) (lNC_refusals h0) (lNC_refusals_L h0) dX7_count_10 ?_
    refine nc_alen (v := 7) cx hw (lNC_refusals_L h0) rfl dX7_count_13 ?_
    refine lv_iadd hx hb dX7_count_14 ?_
    refine lv_icmp_ge (tgt := 28) hx hb dX7_count_15 (by decide) (fun c10 => ?_) (fun c10 => ?_)
    · have hf := nc_ifp hf c10
      exact hk1 hf _ _ _ hw (lv_sub hl [0, 1] rfl)
    · have hf := nc_ifn hf c10
      refine lv_aload_n hx hb dX7_count_18 rfl (lv_at hl 0 rfl) ?_
      refine gr_X7_49 cx hw (lNC_is h0) (lNC_refusals h0) (lNC_refusals_L h0) dX7_count_19 ?_
      refine lv_iload_n hx hb dX7_count_22 rfl (lv_at hl 1 rfl) ?_
      refine lv_bipush (v := 10) hx hb dX7_count_23 (by decide) ?_
      refine lv_isub hx hb dX7_count_25 ?_
      obtain ⟨j11, ej11, ij11, lj11, hf⟩ := nc_ix hf
      refine nc_ild cx hw (lNC_refusals_L h0) ij11 ej11 dX7_count_26 ?_
      exact nc_rpp hret hf rfl hw dX7_count_27
