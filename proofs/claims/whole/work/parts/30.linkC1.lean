abbrev rm_X5_measure : Room := { frames := 1, cells := 0, slots := 0, locals := 24 }
set_option maxRecDepth 100000 in
set_option maxHeartbeats 4000000 in
theorem c_X5_measure (l : Launch) {G : nc_G} {K : nc_K} {o : Nat} (h0 : nc_LTown G K o) (mi : nc_Mem)  (res : nc_Mem) (hf : f_X5_measure mi o = some res) : nc_M l yX5_measure cX5_measure 5 none rm_X5_measure 0 0 G K K [.ref o] mi res none := by
  refine nc_meet_v (by decide) (Nat.le_of_ble_eq_true rfl) ?_
  intro p e s m args below meth c Q H locs ls cx hret hw hl
  have cx : nc_C p s m args c cX5_measure 5 RX5 G := cx
  have hl : lv_has ls 5 [(0, .ref o)] := hl
  have hx := cx.1
  have hb := cx.2.1
  unfold f_X5_measure at hf
  refine lv_iconst (v := 0) hx hb dX5_measure_0 (by decide) ?_
  refine lv_istore_n (lv' := [(1, .int 0), (0, .ref o)]) hx hb dX5_measure_1 rfl hl (by decide) rfl (fun ls hl => ?_)
  refine nc_loop_w (P := fun κ : Int32 → nc_Mem → Option (nc_Mem) => ∀ (x1 : Int32) (mi2 : nc_Mem), κ x1 mi2 = some res → ∀ (H : Heap) (locs : List Loc) (ls : Array Slot), nc_W G K mi2 H locs → lv_has ls 5 [(0, .ref o), (1, .int x1)] → W p l e rm_X5_measure s m args below meth c H locs 0 0 Q (F0 m 2 ls [])) ?_ ?_ 200 _ _ hf _ _ _ hw (lv_sub hl [1, 0] rfl)
  · intro x1 mi2 hf; exact absurd hf (by intro q; cases q)
  · intro rc3 ihrc3 x1 mi2 hf H locs ls hw hl
    unfold B_X5_measure_2 at hf
    refine lv_iload_n hx hb dX5_measure_2 rfl (lv_at hl 1 rfl) ?_
    refine lv_aload_n hx hb dX5_measure_3 rfl (lv_at hl 0 rfl) ?_
    refine gr_X5_27 cx hw (lTown_is h0) (lTown_least h0) (lTown_least_L h0) dX5_measure_4 ?_
    refine nc_alen (v := 49) cx hw (lTown_least_L h0) rfl dX5_measure_7 ?_
    refine lv_icmp_ge (tgt := 60) hx hb dX5_measure_8 (by decide) (fun c4 => ?_) (fun c4 => ?_)
    · have hf := nc_ifp hf c4
      refine lv_iconst (v := 0) hx hb dX5_measure_60 (by decide) ?_
      refine lv_istore_n (lv' := [(1, .int 0), (0, .ref o)]) hx hb dX5_measure_61 rfl hl (by decide) rfl (fun ls hl => ?_)
      refine nc_loop_w (P := fun κ : Int32 → nc_Mem → Option (nc_Mem) => ∀ (x5 : Int32) (mi6 : nc_Mem), κ x5 mi6 = some res → ∀ (H : Heap) (locs : List Loc) (ls : Array Slot), nc_W G K mi6 H locs → lv_has ls 5 [(0, .ref o), (1, .int x5)] → W p l e rm_X5_measure s m args below meth c H locs 0 0 Q (F0 m 62 ls [])) ?_ ?_ 200 _ _ hf _ _ _ hw (lv_sub hl [1, 0] rfl)
      · intro x5 mi6 hf; exact absurd hf (by intro q; cases q)
      · intro rc7 ihrc7 x5 mi6 hf H locs ls hw hl
        unfold B_X5_measure_62 at hf
        refine lv_iload_n hx hb dX5_measure_62 rfl (lv_at hl 1 rfl) ?_
        refine lv_bipush (v := 7) hx hb dX5_measure_63 (by decide) ?_
        refine lv_icmp_ge (tgt := 141) hx hb dX5_measure_65 (by decide) (fun c8 => ?_) (fun c8 => ?_)
        · have hf := nc_ifp hf c8
          exact nc_vpm hret hf hw dX5_measure_141
        · have hf := nc_ifn hf c8
          refine lv_iconst (v := 0) hx hb dX5_measure_68 (by decide) ?_
          refine lv_istore_n (lv' := [(2, .int 0), (0, .ref o), (1, .int x5)]) hx hb dX5_measure_69 rfl hl (by decide) rfl (fun ls hl => ?_)
          refine nc_loop_w (P := fun κ : Int32 → nc_Mem → Option (nc_Mem) => ∀ (x9 : Int32) (mi10 : nc_Mem), κ x9 mi10 = some res → ∀ (H : Heap) (locs : List Loc) (ls : Array Slot), nc_W G K mi10 H locs → lv_has ls 5 [(0, .ref o), (1, .int x5), (2, .int x9)] → W p l e rm_X5_measure s m args below meth c H locs 0 0 Q (F0 m 70 ls [])) ?_ ?_ 200 _ _ hf _ _ _ hw (lv_sub hl [1, 2, 0] rfl)
          · intro x9 mi10 hf; exact absurd hf (by intro q; cases q)
          · intro rc11 ihrc11 x9 mi10 hf H locs ls hw hl
            unfold B_X5_measure_70 at hf
            refine lv_iload_n hx hb dX5_measure_70 rfl (lv_at hl 2 rfl) ?_
            refine lv_aload_n hx hb dX5_measure_71 rfl (lv_at hl 0 rfl) ?_
            refine gr_X5_27 cx hw (lTown_is h0) (lTown_least h0) (lTown_least_L h0) dX5_measure_72 ?_
            refine nc_alen (v := 49) cx hw (lTown_least_L h0) rfl dX5_measure_75 ?_
            refine lv_icmp_ge (tgt := 135) hx hb dX5_measure_76 (by decide) (fun c12 => ?_) (fun c12 => ?_)
            · have hf := nc_ifp hf c12
              obtain ⟨x13, ex13⟩ : ∃ y : Int32, y = x5 + 1 := ⟨_, rfl⟩
              have hf := nc_let_at hf ex13
              refine lv_iinc (v := x13) (lv' := [(1, .int x13), (0, .ref o), (2, .int x9)]) hx hb dX5_measure_135 hl (k := 1) rfl (by rw [ex13]; rfl) (by decide) rfl (fun ls hl => ?_)
              refine lv_goto (tgt := 62) hx hb dX5_measure_138 (by decide) ?_
              exact ihrc7 _ _ hf _ _ _ hw (lv_sub hl [1, 0] rfl)
            · have hf := nc_ifn hf c12
              refine lv_aload_n hx hb dX5_measure_79 rfl (lv_at hl 0 rfl) ?_
              refine gr_X5_27 cx hw (lTown_is h0) (lTown_least h0) (lTown_least_L h0) dX5_measure_80 ?_
              refine lv_iload_n hx hb dX5_measure_83 rfl (lv_at hl 2 rfl) ?_
              refine lv_bipush (v := 7) hx hb dX5_measure_84 (by decide) ?_
              refine lv_idiv hx hb dX5_measure_86 (by decide) ?_
              refine lv_bipush (v := 7) hx hb dX5_measure_87 (by decide) ?_
              refine lv_imul hx hb dX5_measure_89 ?_
              refine lv_iload_n hx hb dX5_measure_90 rfl (lv_at hl 1 rfl) ?_
              refine lv_iadd hx hb dX5_measure_91 ?_
              obtain ⟨j14, ej14, ij14, lj14, hf⟩ := nc_ix hf
              refine nc_ild cx hw (lTown_least_L h0) ij14 ej14 dX5_measure_92 ?_
              refine lv_topi (fun x15 ex15 => ?_)
              have hf := nc_let_at hf ex15
              refine lv_istore_n (lv' := [(3, .int x15), (0, .ref o), (1, .int x5), (2, .int x9)]) hx hb dX5_measure_93 rfl hl (by decide) rfl (fun ls hl => ?_)
              refine lv_aload_n hx hb dX5_measure_94 rfl (lv_at hl 1 rfl) ?_
              refine gr_X5_27 cx hw (lTown_is h0) (lTown_least h0) (lTown_least_L h0) dX5_measure_95 ?_
              refine lv_iload_n hx hb dX5_measure_98 rfl (lv_at hl 2 rfl) ?_
              refine lv_bipush (v := 7) hx hb dX5_measure_99 (by decide) ?_
              refine lv_imul hx hb dX5_measure_101 ?_
              refine lv_iload_n hx hb dX5_measure_102 rfl (lv_at hl 3 rfl) ?_
              refine lv_bipush (v := 7) hx hb dX5_measure_103 (by decide) ?_
              refine lv_irem hx hb dX5_measure_105 (by decide) ?_
              refine lv_iadd hx hb dX5_measure_106 ?_
              obtain ⟨j16, ej16, ij16, lj16, hf⟩ := nc_ix hf
              refine nc_ild cx hw (lTown_least_L h0) ij16 ej16 dX5_measure_107 ?_
              refine lv_topi (fun x17 ex17 => ?_)
              have hf := nc_let_at hf ex17
              refine lv_istore (lv' := [(4, .int x17), (3, .int x15), (0, .ref o), (1, .int x5), (2, .int x9)]) hx hb dX5_measure_108 hl (by decide) rfl (fun ls hl => ?_)
              refine lv_aload_n hx hb dX5_measure_110 rfl (lv_at hl 2 rfl) ?_
              refine gr_X5_27 cx hw (lTown_is h0) (lTown_least h0) (lTown_least_L h0) dX5_measure_111 ?_
              refine lv_iload_n hx hb dX5_measure_114 rfl (lv_at hl 4 rfl) ?_
              refine lv_aload_n hx hb dX5_measure_115 rfl (lv_at hl 2 rfl) ?_
              refine gr_X5_27 cx hw (lTown_is h0) (lTown_least h0) (lTown_least_L h0) dX5_measure_116 ?_
              refine lv_iload_n hx hb dX5_measure_119 rfl (lv_at hl 4 rfl) ?_
              obtain ⟨j18, ej18, ij18, lj18, hf⟩ := nc_ix hf
              refine nc_ild cx hw (lTown_least_L h0) ij18 ej18 dX5_measure_120 ?_
              refine lv_iload_n hx hb dX5_measure_121 rfl (lv_at hl 1 rfl) ?_
              refine lv_iload hx hb dX5_measure_122 (lv_at hl 0 rfl) ?_
              refine lv_iadd hx hb dX5_measure_124 ?_
              refine nc_mn cx hl.1 (nc_w 203 (by decide +kernel) rfl) ⟨Nat.le_of_ble_eq_true rfl, Nat.le_of_ble_eq_true rfl⟩ dX5_measure_125 ?_
              refine nc_ist cx hw (lTown_least_L h0) ij18 ej18 dX5_measure_128 (fun mi19 H locs emi19 hw => ?_)
              have hf := nc_let_at hf emi19
              obtain ⟨x20, ex20⟩ : ∃ y : Int32, y = x9 + 1 := ⟨_, rfl⟩
              have hf := nc_let_at hf ex20
              refine lv_iinc (v := x20) (lv' := [(2, .int x20), (4, .int x17), (3, .int x15), (0, .ref o), (1, .int x5)]) hx hb dX5_measure_129 hl (k := 4) rfl (by rw [ex20]; rfl) (by decide) rfl (fun ls hl => ?_)
              refine lv_goto (tgt := 70) hx hb dX5_measure_132 (by decide) ?_
              exact ihrc11 _ _ hf _ _ _ hw (lv_sub hl [3, 4, 0] rfl)
    · have hf := nc_ifn hf c4
      refine lv_iload_n hx hb dX5_measure_11 rfl (lv_at hl 1 rfl) ?_
      refine lv_bipush (v := 7) hx hb dX5_measure_12 (by decide) ?_
      refine lv_idiv hx hb dX5_measure_14 (by decide) ?_
      refine lv_iload_n hx hb dX5_measure_15 rfl (lv_at hl 1 rfl) ?_
      refine lv_bipush (v := 7) hx hb dX5_measure_16 (by decide) ?_
      refine lv_irem hx hb dX5_measure_18 (by decide) ?_
      obtain ⟨k21, ek21, hf⟩ := nc_jn_of hf
      have hk21 : ∀ (v22 : Int32), k21 v22 = some res → ∀ (H : Heap) (locs : List Loc) (ls : Array Slot), nc_W G K mi2 H locs → lv_has ls 5 [(0, .ref o), (1, .int x1)] → W p l e rm_X5_measure s m args below meth c H locs 0 0 Q (F0 m 28 ls [.int v22]) := by
        intro v22 hf H locs ls hw hl
        have hf := ((congrFun ek21 v22)).symm.trans hf
        refine lv_istore_n (lv' := [(2, .int v22), (0, .ref o), (1, .int x1)]) hx hb dX5_measure_28 rfl hl (by decide) rfl (fun ls hl => ?_)
        refine lv_aload_n hx hb dX5_measure_29 rfl (lv_at hl 1 rfl) ?_
        refine gr_X5_27 cx hw (lTown_is h0) (lTown_least h0) (lTown_least_L h0) dX5_measure_30 ?_
        refine lv_iload_n hx hb dX5_measure_33 rfl (lv_at hl 2 rfl) ?_
        refine lv_aload_n hx hb dX5_measure_34 rfl (lv_at hl 1 rfl) ?_
        refine gr_X5_23 cx hw (lTown_is h0) (lTown_way h0) (lTown_way_L h0) dX5_measure_35 ?_
        refine lv_iload_n hx hb dX5_measure_38 rfl (lv_at hl 2 rfl) ?_
        obtain ⟨j23, ej23, ij23, lj23, hf⟩ := nc_ix hf
        refine nc_ild cx hw (lTown_way_L h0) ij23 ej23 dX5_measure_39 ?_
        obtain ⟨k24, ek24, hf⟩ := nc_jn_of hf
        have hk24 : ∀ (v25 : Int32), k24 v25 = some res → ∀ (H : Heap) (locs : List Loc) (ls : Array Slot), nc_W G K mi2 H locs → lv_has ls 5 [(0, .ref o), (1, .int x1)] → W p l e rm_X5_measure s m args below meth c H locs 0 0 Q (F0 m 53 ls [.int v25, .int x1, .ref (o + 4)]) := by
          intro v25 hf H locs ls hw hl
          have hf := ((congrFun ek24 v25)).symm.trans hf
          refine nc_ist cx hw (lTown_least_L h0) ij23 ej23 dX5_measure_53 (fun mi26 H locs emi26 hw => ?_)
          have hf := nc_let_at hf emi26
          obtain ⟨x27, ex27⟩ : ∃ y : Int32, y = x1 + 1 := ⟨_, rfl⟩
          have hf := nc_let_at hf ex27
          refine lv_iinc (v := x27) (lv' := [(1, .int x27), (0, .ref o)]) hx hb dX5_measure_54 hl (k := 1) rfl (by rw [ex27]; rfl) (by decide) rfl (fun ls hl => ?_)
          refine lv_goto (tgt := 2) hx hb dX5_measure_57 (by decide) ?_
          exact ihrc3 _ _ hf _ _ _ hw (lv_sub hl [1, 0] rfl)
        refine lv_if_le (tgt := 52) hx hb dX5_measure_40 (by decide) (fun c28 => ?_) (fun c28 => ?_)
        · have hf := nc_ifp hf c28
          refine lv_iload_n hx hb dX5_measure_52 rfl (lv_at hl 0 rfl) ?_
          exact hk24 _ hf _ _ _ hw (lv_sub hl [1, 2] rfl)
        · have hf := nc_ifn hf c28
          refine lv_aload_n hx hb dX5_measure_43 rfl (lv_at hl 1 rfl) ?_
          refine gr_X5_23 cx hw (lTown_is h0) (lTown_way h0) (lTown_way_L h0) dX5_measure_44 ?_
          refine lv_iload_n hx hb dX5_measure_47 rfl (lv_at hl 2 rfl) ?_
          refine nc_ild cx hw (lTown_way_L h0) ij23 ej23 dX5_measure_48 ?_
          refine lv_goto (tgt := 53) hx hb dX5_measure_49 (by decide) ?_
          exact hk24 _ hf _ _ _ hw (lv_sub hl [1, 2] rfl)
      refine lv_icmp_ne (tgt := 26) hx hb dX5_measure_19 (by decide) (fun c29 => ?_) (fun c29 => ?_)
      · have hf := nc_ifn hf c29
        refine nc_ldc (v := 1000000) cx kc_X5_139 dX5_measure_26 ?_
        exact hk21 _ hf _ _ _ hw (lv_sub hl [0, 1] rfl)
      · have hf := nc_ifp hf c29
        refine lv_iconst (v := 0) hx hb dX5_measure_22 (by decide) ?_
        refine lv_goto (tgt := 28) hx hb dX5_measure_23 (by decide) ?_
        exact hk21 _ hf _ _ _ hw (lv_sub hl [0, 1] rfl)
abbrev rm_X7_tellStatements : Room := { frames := 13, cells := 0, slots := 0, locals := 427 }
set_option maxRecDepth 100000 in
set_option maxHeartbeats 4000000 in
theorem c_X7_tellStatements (l : Launch) {G : nc_G} {K : nc_K} {o : Nat} (h0 : nc_LNC G K o) (mi : nc_Mem)  (res : nc_Mem × Int32) (hf : f_X7_tellStatements mi o = some res) : nc_M l yX7_tellStatements cX7_tellStatements 4 (some .int) rm_X7_tellStatements 0 0 G K K [.ref o] mi res.1 (some (.int res.2)) := by
  refine nc_meet_i (by decide) (Nat.le_of_ble_eq_true rfl) ?_
  intro p e s m args below meth c Q H locs ls cx hret hw hl
  have cx : nc_C p s m args c cX7_tellStatements 4 RX7 G := cx
  have hl : lv_has ls 4 [(0, .ref o)] := hl
  have hx := cx.1
  have hb := cx.2.1
  unfold f_X7_tellStatements at hf
  refine lv_aload_n hx hb dX7_tellStatements_0 rfl (lv_at hl 0 rfl) ?_
  refine gr_X7_16 cx hw (lNC_is h0) (lNC_trial h0) (lTown_is (lNC_trial_L h0)) dX7_tellStatements_1 ?_
  refine lv_aload_n hx hb dX7_tellStatements_4 rfl (lv_at hl 0 rfl) ?_
  refine gr_X7_10 cx hw (lNC_is h0) (lNC_now h0) (lTown_is (lNC_now_L h0)) dX7_tellStatements_5 ?_
  obtain ⟨q1, hq1, hf⟩ := nc_bi hf
  refine nc_callVv cx hw lk_X7_214 (c_X5_becomeLike l (lNC_trial_L h0) (lNC_now_L h0) mi  q1 hq1) (ci := 5) rfl (lTown_is (lNC_trial_L h0)) rfl hl.1 rfl (Nat.le_of_ble_eq_true rfl) ⟨rfl, rfl, Nat.le_of_ble_eq_true rfl, Nat.le_of_ble_eq_true rfl⟩ dX7_tellStatements_8 (fun H locs hw => ?_)
  refine lv_iconst (v := 0) hx hb dX7_tellStatements_11 (by decide) ?_
  refine lv_istore_n (lv' := [(1, .int 0), (0, .ref o)]) hx hb dX7_tellStatements_12 rfl hl (by decide) rfl (fun ls hl => ?_)
  refine lv_iconst (v := 0) hx hb dX7_tellStatements_13 (by decide) ?_
  refine lv_istore_n (lv' := [(2, .int 0), (1, .int 0), (0, .ref o)]) hx hb dX7_tellStatements_14 rfl hl (by decide) rfl (fun ls hl => ?_)
  obtain ⟨k2, ek2, hf⟩ := nc_jn_of hf
  have hk2 : ∀ (x3 : Int32) (mi4 : nc_Mem), k2 x3 mi4 = some res → ∀ (H : Heap) (locs : List Loc) (ls : Array Slot), nc_W G K mi4 H locs → lv_has ls 4 [(0, .ref o), (1, .int x3)] → W p l e rm_X7_tellStatements s m args below meth c H locs 0 0 Q (F0 m 83 ls []) := by
    intro x3 mi4 hf H locs ls hw hl
    have hf := ((congrFun (congrFun ek2 x3) mi4)).symm.trans hf
    refine lv_aload_n hx hb dX7_tellStatements_83 rfl (lv_at hl 0 rfl) ?_
    refine gr_X7_16 cx hw (lNC_is h0) (lNC_trial h0) (lTown_is (lNC_trial_L h0)) dX7_tellStatements_84 ?_
    obtain ⟨q5, hq5, hf⟩ := nc_bi hf
    refine nc_callVv cx hw lk_X7_239 (c_X5_measure l (lNC_trial_L h0) mi4  q5 hq5) (ci := 5) rfl (lTown_is (lNC_trial_L h0)) rfl hl.1 rfl (Nat.le_of_ble_eq_true rfl) ⟨rfl, rfl, Nat.le_of_ble_eq_true rfl, Nat.le_of_ble_eq_true rfl⟩ dX7_tellStatements_87 (fun H locs hw => ?_)
    refine lv_aload_n hx hb dX7_tellStatements_90 rfl (lv_at hl 0 rfl) ?_
    refine gr_X7_10 cx hw (lNC_is h0) (lNC_now h0) (lTown_is (lNC_now_L h0)) dX7_tellStatements_91 ?_
    refine lv_aload_n hx hb dX7_tellStatements_94 rfl (lv_at hl 0 rfl) ?_
    refine gr_X7_16 cx hw (lNC_is h0) (lNC_trial h0) (lTown_is (lNC_trial_L h0)) dX7_tellStatements_95 ?_
    obtain ⟨q6, hq6, hf⟩ := nc_bi hf
    refine nc_callVv cx hw lk_X7_214 (c_X5_becomeLike l (lNC_now_L h0) (lNC_trial_L h0) q5  q6 hq6) (ci := 5) rfl (lTown_is (lNC_now_L h0)) rfl hl.1 rfl (Nat.le_of_ble_eq_true rfl) ⟨rfl, rfl, Nat.le_of_ble_eq_true rfl, Nat.le_of_ble_eq_true rfl⟩ dX7_tellStatements_98 (fun H locs hw => ?_)
    refine lv_iload_n hx hb dX7_tellStatements_101 rfl (lv_at hl 1 rfl) ?_
    exact nc_rpm hret hf rfl hw dX7_tellStatements_102
  refine nc_loop_w (P := fun κ : Int32 → Int32 → nc_Mem → Option (nc_Mem × Int32) => ∀ (x7 : Int32) (x8 : Int32) (mi9 : nc_Mem), κ x7 x8 mi9 = some res → ∀ (H : Heap) (locs : List Loc) (ls : Array Slot), nc_W G K mi9 H locs → lv_has ls 4 [(0, .ref o), (1, .int x7), (2, .int x8)] → W p l e rm_X7_tellStatements s m args below meth c H locs 0 0 Q (F0 m 15 ls [])) ?_ ?_ 200 _ _ _ hf _ _ _ hw (lv_sub hl [2, 1, 0] rfl)
  · intro x7 x8 mi9 hf; exact absurd hf (by intro q; cases q)
  · intro rc10 ihrc10 x7 x8 mi9 hf H locs ls hw hl
    unfold B_X7_tellStatements_15 at hf
    refine lv_iload_n hx hb dX7_tellStatements_15 rfl (lv_at hl 2 rfl) ?_
    refine lv_aload_n hx hb dX7_tellStatements_16 rfl (lv_at hl 0 rfl) ?_
    refine gr_X7_25 cx hw (lNC_is h0) (lNC_letters h0) (lLetters_is (lNC_letters_L h0)) dX7_tellStatements_17 ?_
    refine gi_X7_68 cx hw (lLetters_is (lNC_letters_L h0)) dX7_tellStatements_20 ?_
    refine lv_icmp_ge (tgt := 83) hx hb dX7_tellStatements_23 (by decide) (fun c11 => ?_) (fun c11 => ?_)
    · have hf := nc_ifp hf c11
      exact hk2 _ _ hf _ _ _ hw (lv_sub hl [0, 1] rfl)
    · have hf := nc_ifn hf c11
      refine lv_iload_n hx hb dX7_tellStatements_26 rfl (lv_at hl 1 rfl) ?_
      refine lv_bipush (v := 64) hx hb dX7_tellStatements_27 (by decide) ?_
      refine lv_icmp_ge (tgt := 83) hx hb dX7_tellStatements_29 (by decide) (fun c12 => ?_) (fun c12 => ?_)
      · have hf := nc_ifp hf c12
        exact hk2 _ _ hf _ _ _ hw (lv_sub hl [0, 1] rfl)
      · have hf := nc_ifn hf c12
        refine lv_aload_n hx hb dX7_tellStatements_32 rfl (lv_at hl 0 rfl) ?_
        refine gr_X7_25 cx hw (lNC_is h0) (lNC_letters h0) (lLetters_is (lNC_letters_L h0)) dX7_tellStatements_33 ?_
        refine lv_iload_n hx hb dX7_tellStatements_36 rfl (lv_at hl 2 rfl) ?_
        obtain ⟨q13, hq13, hf⟩ := nc_bi hf
        refine nc_callVi cx hw lk_X7_226 (c_X1_read l (lNC_letters_L h0) mi9 x8 q13 hq13) (ci := 1) rfl (lLetters_is (lNC_letters_L h0)) rfl hl.1 rfl (Nat.le_of_ble_eq_true rfl) ⟨rfl, rfl, Nat.le_of_ble_eq_true rfl, Nat.le_of_ble_eq_true rfl⟩ dX7_tellStatements_37 (fun H locs hw => ?_)
        refine lv_istore_n (lv' := [(3, .int q13.2), (0, .ref o), (1, .int x7), (2, .int x8)]) hx hb dX7_tellStatements_40 rfl hl (by decide) rfl (fun ls hl => ?_)
        refine lv_iload_n hx hb dX7_tellStatements_41 rfl (lv_at hl 0 rfl) ?_
        refine lv_if_lt (tgt := 69) hx hb dX7_tellStatements_42 (by decide) (fun c14 => ?_) (fun c14 => ?_)
        · have hf := nc_ifp hf c14
          refine lv_sipush (v := (-2000)) hx hb dX7_tellStatements_69 (by decide) ?_
          refine lv_iload_n hx hb dX7_tellStatements_72 rfl (lv_at hl 3 rfl) ?_
          refine lv_isub hx hb dX7_tellStatements_73 ?_
          exact nc_rpm hret hf rfl hw dX7_tellStatements_74
        · have hf := nc_ifn hf c14
          refine lv_aload_n hx hb dX7_tellStatements_45 rfl (lv_at hl 1 rfl) ?_
          refine gr_X7_16 cx hw (lNC_is h0) (lNC_trial h0) (lTown_is (lNC_trial_L h0)) dX7_tellStatements_46 ?_
          refine lv_aload_n hx hb dX7_tellStatements_49 rfl (lv_at hl 1 rfl) ?_
          refine gr_X7_25 cx hw (lNC_is h0) (lNC_letters h0) (lLetters_is (lNC_letters_L h0)) dX7_tellStatements_50 ?_
          refine gi_X7_229 cx hw (lLetters_is (lNC_letters_L h0)) dX7_tellStatements_53 ?_
          refine lv_aload_n hx hb dX7_tellStatements_56 rfl (lv_at hl 1 rfl) ?_
          refine gr_X7_25 cx hw (lNC_is h0) (lNC_letters h0) (lLetters_is (lNC_letters_L h0)) dX7_tellStatements_57 ?_
          refine gr_X7_232 cx hw (lLetters_is (lNC_letters_L h0)) (lLetters_number (lNC_letters_L h0)) (lLetters_number_L (lNC_letters_L h0)) dX7_tellStatements_60 ?_
          obtain ⟨q15, hq15, hf⟩ := nc_bi hf
          refine nc_callVi cx hw lk_X7_235 (c_X5_hear l (lNC_trial_L h0) (lLetters_number_L (lNC_letters_L h0)) q13.1 (q13.1 (o + 52) 3) q15 hq15) (ci := 5) rfl (lTown_is (lNC_trial_L h0)) rfl hl.1 rfl (Nat.le_of_ble_eq_true rfl) ⟨rfl, rfl, Nat.le_of_ble_eq_true rfl, Nat.le_of_ble_eq_true rfl⟩ dX7_tellStatements_63 (fun H locs hw => ?_)
          refine lv_if_ne (tgt := 75) hx hb dX7_tellStatements_66 (by decide) (fun c16 => ?_) (fun c16 => ?_)
          · have hf := nc_ifn hf c16
            refine lv_iload_n hx hb dX7_tellStatements_75 rfl (lv_at hl 0 rfl) ?_
            refine lv_istore_n (lv' := [(2, .int q13.2), (3, .int q13.2), (0, .ref o), (1, .int x7)]) hx hb dX7_tellStatements_76 rfl hl (by decide) rfl (fun ls hl => ?_)
            obtain ⟨x17, ex17⟩ : ∃ y : Int32, y = x7 + 1 := ⟨_, rfl⟩
            have hf := nc_let_at hf ex17
            refine lv_iinc (v := x17) (lv' := [(1, .int x17), (2, .int q13.2), (3, .int q13.2), (0, .ref o)]) hx hb dX7_tellStatements_77 hl (k := 3) rfl (by rw [ex17]; rfl) (by decide) rfl (fun ls hl => ?_)
            refine lv_goto (tgt := 15) hx hb dX7_tellStatements_80 (by decide) ?_
            exact ihrc10 _ _ _ hf _ _ _ hw (lv_sub hl [3, 0, 1] rfl)
          · have hf := nc_ifp hf c16
            refine lv_sipush (v := (-2000)) hx hb dX7_tellStatements_69 (by decide) ?_
            refine lv_iload_n hx hb dX7_tellStatements_72 rfl (lv_at hl 3 rfl) ?_
            refine lv_isub hx hb dX7_tellStatements_73 ?_
            exact nc_rpm hret hf rfl hw dX7_tellStatements_74
abbrev rm_X7_town : Room := { frames := 14, cells := 0, slots := 0, locals := 450 }
set_option maxRecDepth 100000 in
set_option maxHeartbeats 4000000 in
theorem c_X7_town (l : Launch) {G : nc_G} {K : nc_K} {o : Nat} (h0 : nc_LNC G K o) (mi : nc_Mem)  (res : nc_Mem × Int32) (hf : f_X7_town mi o = some res) : nc_M l yX7_town cX7_town 3 (some .int) rm_X7_town 0 0 G K K [.ref o] mi res.1 (some (.int res.2)) := by
  refine nc_meet_i (by decide) (Nat.le_of_ble_eq_true rfl) ?_
  intro p e s m args below meth c Q H locs ls cx hret hw hl
  have cx : nc_C p s m args c cX7_town 3 RX7 G := cx
  have hl : lv_has ls 3 [(0, .ref o)] := hl
  have hx := cx.1
  have hb := cx.2.1
  unfold f_X7_town at hf
  refine lv_aload_n hx hb dX7_town_0 rfl (lv_at hl 0 rfl) ?_
  refine gr_X7_25 cx hw (lNC_is h0) (lNC_letters h0) (lLetters_is (lNC_letters_L h0)) dX7_town_1 ?_
  obtain ⟨q1, hq1, hf⟩ := nc_bi hf
  refine nc_callVi cx hw lk_X7_71 (c_X1_firstBadSign l (lNC_letters_L h0) mi  q1 hq1) (ci := 1) rfl (lLetters_is (lNC_letters_L h0)) rfl hl.1 rfl (Nat.le_of_ble_eq_true rfl) ⟨rfl, rfl, Nat.le_of_ble_eq_true rfl, Nat.le_of_ble_eq_true rfl⟩ dX7_town_4 (fun H locs hw => ?_)
  refine lv_istore_n (lv' := [(1, .int q1.2), (0, .ref o)]) hx hb dX7_town_7 rfl hl (by decide) rfl (fun ls hl => ?_)
  refine lv_iload_n hx hb dX7_town_8 rfl (lv_at hl 0 rfl) ?_
  obtain ⟨k2, ek2, hf⟩ := nc_jn_of hf
  have hk2 : ∀ (v3 : Int32) (mi4 : nc_Mem), k2 v3 mi4 = some res → ∀ (H : Heap) (locs : List Loc) (ls : Array Slot), nc_W G K mi4 H locs → lv_has ls 3 [(0, .ref o)] → W p l e rm_X7_town s m args below meth c H locs 0 0 Q (F0 m 24 ls [.int v3]) := by
    intro v3 mi4 hf H locs ls hw hl
    have hf := ((congrFun (congrFun ek2 v3) mi4)).symm.trans hf
    refine lv_istore_n (lv' := [(2, .int v3), (0, .ref o)]) hx hb dX7_town_24 rfl hl (by decide) rfl (fun ls hl => ?_)
    refine lv_aload_n hx hb dX7_town_25 rfl (lv_at hl 1 rfl) ?_
    refine gr_X7_25 cx hw (lNC_is h0) (lNC_letters h0) (lLetters_is (lNC_letters_L h0)) dX7_town_26 ?_
    refine lv_iconst (v := 0) hx hb dX7_town_29 (by decide) ?_
    refine pi_X7_68 cx hw (lLetters_is (lNC_letters_L h0)) dX7_town_30 (fun mi5 H locs emi5 hw => ?_)
    have hf := nc_let_at hf emi5
    refine lv_iload_n hx hb dX7_town_33 rfl (lv_at hl 0 rfl) ?_
    exact nc_rpm hret hf rfl hw dX7_town_34
  refine lv_if_ge (tgt := 19) hx hb dX7_town_9 (by decide) (fun c6 => ?_) (fun c6 => ?_)
  · have hf := nc_ifp hf c6
    refine lv_sipush (v := (-1000)) hx hb dX7_town_19 (by decide) ?_
    refine lv_iload_n hx hb dX7_town_22 rfl (lv_at hl 0 rfl) ?_
    refine lv_isub hx hb dX7_town_23 ?_
    exact hk2 _ _ hf _ _ _ hw (lv_sub hl [1] rfl)
  · have hf := nc_ifn hf c6
    refine lv_aload_n hx hb dX7_town_12 rfl (lv_at hl 1 rfl) ?_
    obtain ⟨q7, hq7, hf⟩ := nc_bi hf
    refine nc_callVi cx hw lk_X7_75 (c_X7_tellStatements l h0 q1.1  q7 hq7) (ci := 7) rfl (lNC_is h0) rfl hl.1 rfl (Nat.le_of_ble_eq_true rfl) ⟨rfl, rfl, Nat.le_of_ble_eq_true rfl, Nat.le_of_ble_eq_true rfl⟩ dX7_town_13 (fun H locs hw => ?_)
    refine lv_goto (tgt := 24) hx hb dX7_town_16 (by decide) ?_
    exact hk2 _ _ hf _ _ _ hw (lv_sub hl [1] rfl)
abbrev rm_X5_leastBetween : Room := { frames := 1, cells := 0, slots := 0, locals := 21 }
set_option maxRecDepth 100000 in
set_option maxHeartbeats 4000000 in
theorem c_X5_leastBetween (l : Launch) {G : nc_G} {K : nc_K} {o : Nat} (h0 : nc_LTown G K o) (mi : nc_Mem) (a1 a2 : Int32) (res : Int32) (hf : f_X5_leastBetween mi o a1 a2 = some res) : nc_M l yX5_leastBetween cX5_leastBetween 3 (some .int) rm_X5_leastBetween 0 0 G K K [.ref o, .int a1, .int a2] mi mi (some (.int res)) := by
  refine nc_meet_i (by decide) (Nat.le_of_ble_eq_true rfl) ?_
  intro p e s m args below meth c Q H locs ls cx hret hw hl
  have cx : nc_C p s m args c cX5_leastBetween 3 RX5 G := cx
  have hl : lv_has ls 3 [(0, .ref o), (1, .int a1), (2, .int a2)] := hl
  have hx := cx.1
  have hb := cx.2.1
  unfold f_X5_leastBetween at hf
  refine lv_aload_n hx hb dX5_leastBetween_0 rfl (lv_at hl 0 rfl) ?_
  refine lv_iload_n hx hb dX5_leastBetween_1 rfl (lv_at hl 1 rfl) ?_
  refine nc_callVi cx hw lk_X5_100 (c_X5_isPlace l h0 mi a1 _ rfl) (ci := 5) rfl (lTown_is h0) rfl hl.1 rfl (Nat.le_of_ble_eq_true rfl) ⟨rfl, rfl, Nat.le_of_ble_eq_true rfl, Nat.le_of_ble_eq_true rfl⟩ dX5_leastBetween_2 (fun H locs hw => ?_)
  refine lv_if_eq (tgt := 30) hx hb dX5_leastBetween_5 (by decide) (fun c1 => ?_) (fun c1 => ?_)
  · have hf := nc_ifp hf c1
    refine nc_ldc (v := 1000000) cx kc_X5_139 dX5_leastBetween_30 ?_
    exact nc_rpp hret hf rfl hw dX5_leastBetween_32
  · have hf := nc_ifn hf c1
    refine lv_aload_n hx hb dX5_leastBetween_8 rfl (lv_at hl 0 rfl) ?_
    refine lv_iload_n hx hb dX5_leastBetween_9 rfl (lv_at hl 2 rfl) ?_
    refine nc_callVi cx hw lk_X5_100 (c_X5_isPlace l h0 mi a2 _ rfl) (ci := 5) rfl (lTown_is h0) rfl hl.1 rfl (Nat.le_of_ble_eq_true rfl) ⟨rfl, rfl, Nat.le_of_ble_eq_true rfl, Nat.le_of_ble_eq_true rfl⟩ dX5_leastBetween_10 (fun H locs hw => ?_)
    refine lv_if_eq (tgt := 30) hx hb dX5_leastBetween_13 (by decide) (fun c2 => ?_) (fun c2 => ?_)
    · have hf := nc_ifp hf c2
      refine nc_ldc (v := 1000000) cx kc_X5_139 dX5_leastBetween_30 ?_
      exact nc_rpp hret hf rfl hw dX5_leastBetween_32
    · have hf := nc_ifn hf c2
      refine lv_aload_n hx hb dX5_leastBetween_16 rfl (lv_at hl 0 rfl) ?_
      refine gr_X5_27 cx hw (lTown_is h0) (lTown_least h0) (lTown_least_L h0) dX5_leastBetween_17 ?_
      refine lv_iload_n hx hb dX5_leastBetween_20 rfl (lv_at hl 1 rfl) ?_
      refine lv_bipush (v := 7) hx hb dX5_leastBetween_21 (by decide) ?_
      refine lv_imul hx hb dX5_leastBetween_23 ?_
      refine lv_iload_n hx hb dX5_leastBetween_24 rfl (lv_at hl 2 rfl) ?_
      refine lv_iadd hx hb dX5_leastBetween_25 ?_
      obtain ⟨j3, ej3, ij3, lj3, hf⟩ := nc_ix hf
      refine nc_ild cx hw (lTown_least_L h0) ij3 ej3 dX5_leastBetween_26 ?_
      refine lv_goto (tgt := 32) hx hb dX5_leastBetween_27 (by decide) ?_
      exact nc_rpp hret hf rfl hw dX5_leastBetween_32
abbrev rm_X7_minutes : Room := { frames := 2, cells := 0, slots := 0, locals := 43 }
set_option maxRecDepth 100000 in
set_option maxHeartbeats 4000000 in
theorem c_X7_minutes (l : Launch) {G : nc_G} {K : nc_K} {o : Nat} (h0 : nc_LNC G K o) (mi : nc_Mem) (a1 a2 : Int32) (res : nc_Mem × Int32) (hf : f_X7_minutes mi o a1 a2 = some res) : nc_M l yX7_minutes cX7_minutes 4 (some .int) rm_X7_minutes 0 0 G K K [.ref o, .int a1, .int a2] mi res.1 (some (.int res.2)) := by
  refine nc_meet_i (by decide) (Nat.le_of_ble_eq_true rfl) ?_
  intro p e s m args below meth c Q H locs ls cx hret hw hl
  have cx : nc_C p s m args c cX7_minutes 4 RX7 G := cx
  have hl : lv_has ls 4 [(0, .ref o), (1, .int a1), (2, .int a2)] := hl
  have hx := cx.1
  have hb := cx.2.1
  unfold f_X7_minutes at hf
  refine lv_aload_n hx hb dX7_minutes_0 rfl (lv_at hl 0 rfl) ?_
  refine gr_X7_10 cx hw (lNC_is h0) (lNC_now h0) (lTown_is (lNC_now_L h0)) dX7_minutes_1 ?_
  refine lv_iload_n hx hb dX7_minutes_4 rfl (lv_at hl 1 rfl) ?_
  refine nc_callVi cx hw lk_X7_78 (c_X5_isPlace l (lNC_now_L h0) mi a1 _ rfl) (ci := 5) rfl (lTown_is (lNC_now_L h0)) rfl hl.1 rfl (Nat.le_of_ble_eq_true rfl) ⟨rfl, rfl, Nat.le_of_ble_eq_true rfl, Nat.le_of_ble_eq_true rfl⟩ dX7_minutes_5 (fun H locs hw => ?_)
  obtain ⟨k1, ek1, hf⟩ := nc_jn_of hf
  have hk1 : k1 = some res → ∀ (H : Heap) (locs : List Loc) (ls : Array Slot), nc_W G K mi H locs → lv_has ls 4 [(0, .ref o)] → W p l e rm_X7_minutes s m args below meth c H locs 0 0 Q (F0 m 22 ls []) := by
    intro hf H locs ls hw hl
    have hf := (ek1).symm.trans hf
    refine lv_aload_n hx hb dX7_minutes_22 rfl (lv_at hl 0 rfl) ?_
    refine lv_iconst (v := (-1)) hx hb dX7_minutes_23 (by decide) ?_
    obtain ⟨q2, hq2, hf⟩ := nc_bi hf
    refine nc_callVi cx hw lk_X7_60 (c_X7_refuse l h0 mi (-1) q2 hq2) (ci := 7) rfl (lNC_is h0) rfl hl.1 rfl (Nat.le_of_ble_eq_true rfl) ⟨rfl, rfl, Nat.le_of_ble_eq_true rfl, Nat.le_of_ble_eq_true rfl⟩ dX7_minutes_24 (fun H locs hw => ?_)
    exact nc_rpm hret hf rfl hw dX7_minutes_27
  refine lv_if_eq (tgt := 22) hx hb dX7_minutes_8 (by decide) (fun c3 => ?_) (fun c3 => ?_)
  · have hf := nc_ifp hf c3
    exact hk1 hf _ _ _ hw (lv_sub hl [0] rfl)
  · have hf := nc_ifn hf c3
    refine lv_aload_n hx hb dX7_minutes_11 rfl (lv_at hl 0 rfl) ?_
    refine gr_X7_10 cx hw (lNC_is h0) (lNC_now h0) (lTown_is (lNC_now_L h0)) dX7_minutes_12 ?_
    refine lv_iload_n hx hb dX7_minutes_15 rfl (lv_at hl 2 rfl) ?_
    refine nc_callVi cx hw lk_X7_78 (c_X5_isPlace l (lNC_now_L h0) mi a2 _ rfl) (ci := 5) rfl (lTown_is (lNC_now_L h0)) rfl hl.1 rfl (Nat.le_of_ble_eq_true rfl) ⟨rfl, rfl, Nat.le_of_ble_eq_true rfl, Nat.le_of_ble_eq_true rfl⟩ dX7_minutes_16 (fun H locs hw => ?_)
    refine lv_if_ne (tgt := 28) hx hb dX7_minutes_19 (by decide) (fun c4 => ?_) (fun c4 => ?_)
    · have hf := nc_ifn hf c4
      refine lv_aload_n hx hb dX7_minutes_28 rfl (lv_at hl 0 rfl) ?_
      refine gr_X7_10 cx hw (lNC_is h0) (lNC_now h0) (lTown_is (lNC_now_L h0)) dX7_minutes_29 ?_
      refine lv_iload_n hx hb dX7_minutes_32 rfl (lv_at hl 1 rfl) ?_
      refine lv_iload_n hx hb dX7_minutes_33 rfl (lv_at hl 2 rfl) ?_
      obtain ⟨q5, hq5, hf⟩ := nc_bi hf
      refine nc_callVi cx hw lk_X7_81 (c_X5_leastBetween l (lNC_now_L h0) mi a1 a2 q5 hq5) (ci := 5) rfl (lTown_is (lNC_now_L h0)) rfl hl.1 rfl (Nat.le_of_ble_eq_true rfl) ⟨rfl, rfl, Nat.le_of_ble_eq_true rfl, Nat.le_of_ble_eq_true rfl⟩ dX7_minutes_34 (fun H locs hw => ?_)
      refine lv_istore_n (lv' := [(3, .int q5), (0, .ref o), (1, .int a1), (2, .int a2)]) hx hb dX7_minutes_37 rfl hl (by decide) rfl (fun ls hl => ?_)
      refine lv_iload_n hx hb dX7_minutes_38 rfl (lv_at hl 0 rfl) ?_
      refine nc_ldc (v := 1000000) cx kc_X7_85 dX7_minutes_39 ?_
      refine lv_icmp_lt (tgt := 49) hx hb dX7_minutes_41 (by decide) (fun c6 => ?_) (fun c6 => ?_)
      · have hf := nc_ifp hf c6
        refine lv_iload_n hx hb dX7_minutes_49 rfl (lv_at hl 0 rfl) ?_
        exact nc_rpm hret hf rfl hw dX7_minutes_50
      · have hf := nc_ifn hf c6
        refine lv_bipush (v := (-9)) hx hb dX7_minutes_44 (by decide) ?_
        refine lv_goto (tgt := 50) hx hb dX7_minutes_46 (by decide) ?_
        exact nc_rpm hret hf rfl hw dX7_minutes_50
    · have hf := nc_ifp hf c4
      exact hk1 hf _ _ _ hw (lv_sub hl [0] rfl)
abbrev rm_X5_carriedBits : Room := { frames := 0, cells := 0, slots := 0, locals := 0 }
set_option maxRecDepth 100000 in
set_option maxHeartbeats 4000000 in
theorem c_X5_carriedBits (l : Launch) {G : nc_G} {K : nc_K} {o : Nat} (h0 : nc_LTown G K o) (mi : nc_Mem) (a1 : Int32) (res : Int32) (hf : f_X5_carriedBits mi o a1 = some res) : nc_M l yX5_carriedBits cX5_carriedBits 4 (some .int) rm_X5_carriedBits 0 0 G K K [.ref o, .int a1] mi mi (some (.int res)) := by
  refine nc_meet_i (by decide) (Nat.le_of_ble_eq_true rfl) ?_
  intro p e s m args below meth c Q H locs ls cx hret hw hl
  have cx : nc_C p s m args c cX5_carriedBits 4 RX5 G := cx
  have hl : lv_has ls 4 [(0, .ref o), (1, .int a1)] := hl
  have hx := cx.1
  have hb := cx.2.1
  unfold f_X5_carriedBits at hf
  refine lv_iconst (v := 0) hx hb dX5_carriedBits_0 (by decide) ?_
  refine lv_istore_n (lv' := [(2, .int 0), (0, .ref o), (1, .int a1)]) hx hb dX5_carriedBits_1 rfl hl (by decide) rfl (fun ls hl => ?_)
  refine lv_iconst (v := 0) hx hb dX5_carriedBits_2 (by decide) ?_
  refine lv_istore_n (lv' := [(3, .int 0), (2, .int 0), (0, .ref o), (1, .int a1)]) hx hb dX5_carriedBits_3 rfl hl (by decide) rfl (fun ls hl => ?_)
  refine nc_loop_w (P := fun κ : Int32 → Int32 → Option (Int32) => ∀ (x1 : Int32) (x2 : Int32), κ x1 x2 = some res → ∀ (H : Heap) (locs : List Loc) (ls : Array Slot), nc_W G K mi H locs → lv_has ls 4 [(0, .ref o), (1, .int a1), (2, .int x1), (3, .int x2)] → W p l e rm_X5_carriedBits s m args below meth c H locs 0 0 Q (F0 m 4 ls [])) ?_ ?_ 200 _ _ hf _ _ _ hw (lv_sub hl [2, 3, 1, 0] rfl)
  · intro x1 x2 hf; exact absurd hf (by intro q; cases q)
  · intro rc3 ihrc3 x1 x2 hf H locs ls hw hl
    unfold B_X5_carriedBits_4 at hf
    refine lv_iload_n hx hb dX5_carriedBits_4 rfl (lv_at hl 3 rfl) ?_
    refine lv_aload_n hx hb dX5_carriedBits_5 rfl (lv_at hl 0 rfl) ?_
    refine gi_X5_55 cx hw (lTown_is h0) dX5_carriedBits_6 ?_
    refine lv_icmp_ge (tgt := 40) hx hb dX5_carriedBits_9 (by decide) (fun c4 => ?_) (fun c4 => ?_)
    · have hf := nc_ifp hf c4
      refine lv_iload_n hx hb dX5_carriedBits_40 rfl (lv_at hl 2 rfl) ?_
      exact nc_rpp hret hf rfl hw dX5_carriedBits_41
    · have hf := nc_ifn hf c4
      refine lv_aload_n hx hb dX5_carriedBits_12 rfl (lv_at hl 0 rfl) ?_
      refine gr_X5_19 cx hw (lTown_is h0) (lTown_goods h0) (lTown_goods_L h0) dX5_carriedBits_13 ?_
      refine lv_iload_n hx hb dX5_carriedBits_16 rfl (lv_at hl 3 rfl) ?_
      obtain ⟨j5, ej5, ij5, lj5, hf⟩ := nc_ix hf
      refine nc_ald cx hw (by decide) (lTown_goods_L h0) ij5 ej5 ((lTown_goods_E h0 j5 lj5)).1 (lThing_is ((lTown_goods_E h0 j5 lj5)).2) dX5_carriedBits_17 ?_
      refine gi_X5_97 cx hw (lThing_is ((lTown_goods_E h0 j5 lj5)).2) dX5_carriedBits_18 ?_
      refine lv_bipush (v := 10) hx hb dX5_carriedBits_21 (by decide) ?_
      refine lv_iload_n hx hb dX5_carriedBits_23 rfl (lv_at hl 1 rfl) ?_
      refine lv_iadd hx hb dX5_carriedBits_24 ?_
      refine lv_icmp_ne (tgt := 34) hx hb dX5_carriedBits_25 (by decide) (fun c6 => ?_) (fun c6 => ?_)
      · have hf := nc_ifn hf c6
        obtain ⟨x7, ex7⟩ : ∃ y : Int32, y = x2 + 1 := ⟨_, rfl⟩
        have hf := nc_let_at hf ex7
        refine lv_iinc (v := x7) (lv' := [(3, .int x7), (0, .ref o), (1, .int a1), (2, .int x1)]) hx hb dX5_carriedBits_34 hl (k := 3) rfl (by rw [ex7]; rfl) (by decide) rfl (fun ls hl => ?_)
        refine lv_goto (tgt := 4) hx hb dX5_carriedBits_37 (by decide) ?_
        exact ihrc3 _ _ hf _ _ _ hw (lv_sub hl [1, 2, 3, 0] rfl)
      · have hf := nc_ifp hf c6
        refine lv_iload_n hx hb dX5_carriedBits_28 rfl (lv_at hl 2 rfl) ?_
        refine lv_iconst (v := 1) hx hb dX5_carriedBits_29 (by decide) ?_
        refine lv_iload_n hx hb dX5_carriedBits_30 rfl (lv_at hl 3 rfl) ?_
        refine lv_ishl hx hb dX5_carriedBits_31 ?_
        refine lv_ior hx hb dX5_carriedBits_32 ?_
        refine lv_topi (fun x8 ex8 => ?_)
        have hf := nc_let_at hf ex8
        refine lv_istore_n (lv' := [(2, .int x8), (0, .ref o), (1, .int a1), (3, .int x2)]) hx hb dX5_carriedBits_33 rfl hl (by decide) rfl (fun ls hl => ?_)
        obtain ⟨x9, ex9⟩ : ∃ y : Int32, y = x2 + 1 := ⟨_, rfl⟩
        have hf := nc_let_at hf ex9
        refine lv_iinc (v := x9) (lv' := [(3, .int x9), (2, .int x8), (0, .ref o), (1, .int a1)]) hx hb dX5_carriedBits_34 hl (k := 3) rfl (by rw [ex9]; rfl) (by decide) rfl (fun ls hl => ?_)
        refine lv_goto (tgt := 4) hx hb dX5_carriedBits_37 (by decide) ?_
        exact ihrc3 _ _ hf _ _ _ hw (lv_sub hl [2, 3, 1, 0] rfl)
abbrev rm_X3_tellOf : Room := { frames := 0, cells := 0, slots := 0, locals := 0 }
set_option maxRecDepth 100000 in
set_option maxHeartbeats 4000000 in
theorem c_X3_tellOf (l : Launch) {G : nc_G} {K : nc_K} {o : Nat} (h0 : nc_LPerson G K o) (mi : nc_Mem) (a1 : Int32) (res : Int32) (hf : f_X3_tellOf mi o a1 = res) : nc_M l yX3_tellOf cX3_tellOf 2 (some .int) rm_X3_tellOf 0 0 G K K [.ref o, .int a1] mi mi (some (.int res)) := by
  refine nc_meet_i (by decide) (Nat.le_of_ble_eq_true rfl) ?_
  intro p e s m args below meth c Q H locs ls cx hret hw hl
  have cx : nc_C p s m args c cX3_tellOf 2 RX3 G := cx
  have hl : lv_has ls 2 [(0, .ref o), (1, .int a1)] := hl
  have hx := cx.1
  have hb := cx.2.1
  unfold f_X3_tellOf at hf
  refine lv_iload_n hx hb dX3_tellOf_0 rfl (lv_at hl 1 rfl) ?_
  by_cases c1 : a1 = 0
  · have hf := nc_ifp hf c1
    refine lv_tableIn (tgt := 40) (off := 39) hx hb dX3_tellOf_1 (by rw [c1]; decide) (by rw [c1]; decide) (by rw [c1]; rfl) (by decide) ?_
    refine lv_aload_n hx hb dX3_tellOf_40 rfl (lv_at hl 0 rfl) ?_
    refine gi_X3_7 cx hw (lPerson_is h0) dX3_tellOf_41 ?_
    exact nc_rtp hret hf rfl hw dX3_tellOf_44
  · have hf := nc_ifn hf c1
    by_cases c2 : a1 = 1
    · have hf := nc_ifp hf c2
      refine lv_tableIn (tgt := 45) (off := 44) hx hb dX3_tellOf_1 (by rw [c2]; decide) (by rw [c2]; decide) (by rw [c2]; rfl) (by decide) ?_
      refine lv_aload_n hx hb dX3_tellOf_45 rfl (lv_at hl 0 rfl) ?_
      refine gi_X3_13 cx hw (lPerson_is h0) dX3_tellOf_46 ?_
      exact nc_rtp hret hf rfl hw dX3_tellOf_49
    · have hf := nc_ifn hf c2
      by_cases c3 : a1 = 2
      · have hf := nc_ifp hf c3
        refine lv_tableIn (tgt := 50) (off := 49) hx hb dX3_tellOf_1 (by rw [c3]; decide) (by rw [c3]; decide) (by rw [c3]; rfl) (by decide) ?_
        refine lv_aload_n hx hb dX3_tellOf_50 rfl (lv_at hl 0 rfl) ?_
        refine gi_X3_16 cx hw (lPerson_is h0) dX3_tellOf_51 ?_
        exact nc_rtp hret hf rfl hw dX3_tellOf_54
      · have hf := nc_ifn hf c3
        by_cases c4 : a1 = 3
        · have hf := nc_ifp hf c4
          refine lv_tableIn (tgt := 55) (off := 54) hx hb dX3_tellOf_1 (by rw [c4]; decide) (by rw [c4]; decide) (by rw [c4]; rfl) (by decide) ?_
          refine lv_aload_n hx hb dX3_tellOf_55 rfl (lv_at hl 0 rfl) ?_
          refine gi_X3_19 cx hw (lPerson_is h0) dX3_tellOf_56 ?_
          exact nc_rtp hret hf rfl hw dX3_tellOf_59
        · have hf := nc_ifn hf c4
          by_cases c5 : a1 = 4
          · have hf := nc_ifp hf c5
            refine lv_tableIn (tgt := 60) (off := 59) hx hb dX3_tellOf_1 (by rw [c5]; decide) (by rw [c5]; decide) (by rw [c5]; rfl) (by decide) ?_
            refine lv_aload_n hx hb dX3_tellOf_60 rfl (lv_at hl 0 rfl) ?_
            refine gi_X3_22 cx hw (lPerson_is h0) dX3_tellOf_61 ?_
            exact nc_rtp hret hf rfl hw dX3_tellOf_64
          · have hf := nc_ifn hf c5
            by_cases c6 : a1 = 5
            · have hf := nc_ifp hf c6
              refine lv_tableIn (tgt := 65) (off := 64) hx hb dX3_tellOf_1 (by rw [c6]; decide) (by rw [c6]; decide) (by rw [c6]; rfl) (by decide) ?_
              refine lv_aload_n hx hb dX3_tellOf_65 rfl (lv_at hl 0 rfl) ?_
              refine gi_X3_25 cx hw (lPerson_is h0) dX3_tellOf_66 ?_
              exact nc_rtp hret hf rfl hw dX3_tellOf_69
            · have hf := nc_ifn hf c6
              refine lv_tableOut (tgt := 70) hx hb dX3_tellOf_1 (by have nc1 := lv_neT (a := 0) c1 (by decide); have nc2 := lv_neT (a := 1) c2 (by decide); have nc3 := lv_neT (a := 2) c3 (by decide); have nc4 := lv_neT (a := 3) c4 (by decide); have nc5 := lv_neT (a := 4) c5 (by decide); have nc6 := lv_neT (a := 5) c6 (by decide); omega) (by decide) ?_
              refine lv_aload_n hx hb dX3_tellOf_70 rfl (lv_at hl 0 rfl) ?_
              refine gi_X3_28 cx hw (lPerson_is h0) dX3_tellOf_71 ?_
              exact nc_rtp hret hf rfl hw dX3_tellOf_74
abbrev rm_X7_person : Room := { frames := 1, cells := 0, slots := 0, locals := 23 }
set_option maxRecDepth 100000 in
set_option maxHeartbeats 4000000 in
theorem c_X7_person (l : Launch) {G : nc_G} {K : nc_K} {o : Nat} (h0 : nc_LNC G K o) (mi : nc_Mem) (a1 a2 : Int32) (res : nc_Mem × Int32) (hf : f_X7_person mi o a1 a2 = some res) : nc_M l yX7_person cX7_person 3 (some .int) rm_X7_person 0 0 G K K [.ref o, .int a1, .int a2] mi res.1 (some (.int res.2)) := by
  refine nc_meet_i (by decide) (Nat.le_of_ble_eq_true rfl) ?_
  intro p e s m args below meth c Q H locs ls cx hret hw hl
  have cx : nc_C p s m args c cX7_person 3 RX7 G := cx
  have hl : lv_has ls 3 [(0, .ref o), (1, .int a1), (2, .int a2)] := hl
  have hx := cx.1
  have hb := cx.2.1
  unfold f_X7_person at hf
  refine lv_aload_n hx hb dX7_person_0 rfl (lv_at hl 0 rfl) ?_
  refine gr_X7_10 cx hw (lNC_is h0) (lNC_now h0) (lTown_is (lNC_now_L h0)) dX7_person_1 ?_
  refine lv_iload_n hx hb dX7_person_4 rfl (lv_at hl 1 rfl) ?_
  refine nc_callVi cx hw lk_X7_86 (c_X5_isPerson l (lNC_now_L h0) mi a1 _ rfl) (ci := 5) rfl (lTown_is (lNC_now_L h0)) rfl hl.1 rfl (Nat.le_of_ble_eq_true rfl) ⟨rfl, rfl, Nat.le_of_ble_eq_true rfl, Nat.le_of_ble_eq_true rfl⟩ dX7_person_5 (fun H locs hw => ?_)
  refine lv_if_ne (tgt := 17) hx hb dX7_person_8 (by decide) (fun c1 => ?_) (fun c1 => ?_)
  · have hf := nc_ifn hf c1
    refine lv_iload_n hx hb dX7_person_17 rfl (lv_at hl 2 rfl) ?_
    obtain ⟨k2, ek2, hf⟩ := nc_jn_of hf
    have hk2 : k2 = some res → ∀ (H : Heap) (locs : List Loc) (ls : Array Slot), nc_W G K mi H locs → lv_has ls 3 [(0, .ref o)] → W p l e rm_X7_person s m args below meth c H locs 0 0 Q (F0 m 27 ls []) := by
      intro hf H locs ls hw hl
      have hf := (ek2).symm.trans hf
      refine lv_aload_n hx hb dX7_person_27 rfl (lv_at hl 0 rfl) ?_
      refine lv_bipush (v := (-2)) hx hb dX7_person_28 (by decide) ?_
      obtain ⟨q3, hq3, hf⟩ := nc_bi hf
      refine nc_callVi cx hw lk_X7_60 (c_X7_refuse l h0 mi (-2) q3 hq3) (ci := 7) rfl (lNC_is h0) rfl hl.1 rfl (Nat.le_of_ble_eq_true rfl) ⟨rfl, rfl, Nat.le_of_ble_eq_true rfl, Nat.le_of_ble_eq_true rfl⟩ dX7_person_30 (fun H locs hw => ?_)
      exact nc_rpm hret hf rfl hw dX7_person_33
    refine lv_if_lt (tgt := 27) hx hb dX7_person_18 (by decide) (fun c4 => ?_) (fun c4 => ?_)
    · have hf := nc_ifp hf c4
      exact hk2 hf _ _ _ hw (lv_sub hl [0] rfl)
    · have hf := nc_ifn hf c4
      refine lv_iload_n hx hb dX7_person_21 rfl (lv_at hl 2 rfl) ?_
      refine lv_bipush (v := 7) hx hb dX7_person_22 (by decide) ?_
      refine lv_icmp_le (tgt := 34) hx hb dX7_person_24 (by decide) (fun c5 => ?_) (fun c5 => ?_)
      · have hf := nc_ifp hf c5
        refine lv_iload_n hx hb dX7_person_34 rfl (lv_at hl 2 rfl) ?_
        refine lv_bipush (v := 7) hx hb dX7_person_35 (by decide) ?_
        refine lv_icmp_ne (tgt := 51) hx hb dX7_person_37 (by decide) (fun c6 => ?_) (fun c6 => ?_)
        · have hf := nc_ifn hf c6
          refine lv_aload_n hx hb dX7_person_51 rfl (lv_at hl 0 rfl) ?_
          refine gr_X7_10 cx hw (lNC_is h0) (lNC_now h0) (lTown_is (lNC_now_L h0)) dX7_person_52 ?_
          refine gr_X7_92 cx hw (lTown_is (lNC_now_L h0)) (lTown_people (lNC_now_L h0)) (lTown_people_L (lNC_now_L h0)) dX7_person_55 ?_
          refine lv_iload_n hx hb dX7_person_58 rfl (lv_at hl 1 rfl) ?_
          obtain ⟨j7, ej7, ij7, lj7, hf⟩ := nc_ix hf
          refine nc_ald cx hw (by decide) (lTown_people_L (lNC_now_L h0)) ij7 ej7 ((lTown_people_E (lNC_now_L h0) j7 lj7)).1 (lPerson_is ((lTown_people_E (lNC_now_L h0) j7 lj7)).2) dX7_person_59 ?_
          refine lv_iload_n hx hb dX7_person_60 rfl (lv_at hl 2 rfl) ?_
          refine nc_callVi cx hw lk_X7_96 (c_X3_tellOf l ((lTown_people_E (lNC_now_L h0) j7 lj7)).2 mi a2 _ rfl) (ci := 3) rfl (lPerson_is ((lTown_people_E (lNC_now_L h0) j7 lj7)).2) rfl hl.1 rfl (Nat.le_of_ble_eq_true rfl) ⟨rfl, rfl, Nat.le_of_ble_eq_true rfl, Nat.le_of_ble_eq_true rfl⟩ dX7_person_61 (fun H locs hw => ?_)
          exact nc_rpm hret hf rfl hw dX7_person_64
        · have hf := nc_ifp hf c6
          refine lv_aload_n hx hb dX7_person_40 rfl (lv_at hl 0 rfl) ?_
          refine gr_X7_10 cx hw (lNC_is h0) (lNC_now h0) (lTown_is (lNC_now_L h0)) dX7_person_41 ?_
          refine lv_iload_n hx hb dX7_person_44 rfl (lv_at hl 1 rfl) ?_
          obtain ⟨q8, hq8, hf⟩ := nc_bi hf
          refine nc_callVi cx hw lk_X7_89 (c_X5_carriedBits l (lNC_now_L h0) mi a1 q8 hq8) (ci := 5) rfl (lTown_is (lNC_now_L h0)) rfl hl.1 rfl (Nat.le_of_ble_eq_true rfl) ⟨rfl, rfl, Nat.le_of_ble_eq_true rfl, Nat.le_of_ble_eq_true rfl⟩ dX7_person_45 (fun H locs hw => ?_)
          refine lv_goto (tgt := 64) hx hb dX7_person_48 (by decide) ?_
          exact nc_rpm hret hf rfl hw dX7_person_64
      · have hf := nc_ifn hf c5
        exact hk2 hf _ _ _ hw (lv_sub hl [0] rfl)
  · have hf := nc_ifp hf c1
    refine lv_aload_n hx hb dX7_person_11 rfl (lv_at hl 0 rfl) ?_
    refine lv_iconst (v := (-1)) hx hb dX7_person_12 (by decide) ?_
    obtain ⟨q9, hq9, hf⟩ := nc_bi hf
    refine nc_callVi cx hw lk_X7_60 (c_X7_refuse l h0 mi (-1) q9 hq9) (ci := 7) rfl (lNC_is h0) rfl hl.1 rfl (Nat.le_of_ble_eq_true rfl) ⟨rfl, rfl, Nat.le_of_ble_eq_true rfl, Nat.le_of_ble_eq_true rfl⟩ dX7_person_13 (fun H locs hw => ?_)
    exact nc_rpm hret hf rfl hw dX7_person_16
abbrev rm_X5_isThing : Room := { frames := 0, cells := 0, slots := 0, locals := 0 }
set_option maxRecDepth 100000 in
set_option maxHeartbeats 4000000 in
theorem c_X5_isThing (l : Launch) {G : nc_G} {K : nc_K} {o : Nat} (h0 : nc_LTown G K o) (mi : nc_Mem) (a1 : Int32) (res : Int32) (hf : f_X5_isThing mi o a1 = res) : nc_M l yX5_isThing cX5_isThing 2 (some .boolean) rm_X5_isThing 0 0 G K K [.ref o, .int a1] mi mi (some (.int res)) := by
  refine nc_meet_i (by decide) (Nat.le_of_ble_eq_true rfl) ?_
  intro p e s m args below meth c Q H locs ls cx hret hw hl
  have cx : nc_C p s m args c cX5_isThing 2 RX5 G := cx
  have hl : lv_has ls 2 [(0, .ref o), (1, .int a1)] := hl
  have hx := cx.1
  have hb := cx.2.1
  unfold f_X5_isThing at hf
  refine lv_iload_n hx hb dX5_isThing_0 rfl (lv_at hl 1 rfl) ?_
  refine lv_if_lt (tgt := 16) hx hb dX5_isThing_1 (by decide) (fun c1 => ?_) (fun c1 => ?_)
  · have hf := nc_ifp hf c1
    refine lv_iconst (v := 0) hx hb dX5_isThing_16 (by decide) ?_
    exact nc_rtp hret hf rfl hw dX5_isThing_17
  · have hf := nc_ifn hf c1
    refine lv_iload_n hx hb dX5_isThing_4 rfl (lv_at hl 1 rfl) ?_
    refine lv_aload_n hx hb dX5_isThing_5 rfl (lv_at hl 0 rfl) ?_
    refine gi_X5_55 cx hw (lTown_is h0) dX5_isThing_6 ?_
    refine lv_icmp_ge (tgt := 16) hx hb dX5_isThing_9 (by decide) (fun c2 => ?_) (fun c2 => ?_)
    · have hf := nc_ifp hf c2
      refine lv_iconst (v := 0) hx hb dX5_isThing_16 (by decide) ?_
      exact nc_rtp hret hf rfl hw dX5_isThing_17
    · have hf := nc_ifn hf c2
      refine lv_iconst (v := 1) hx hb dX5_isThing_12 (by decide) ?_
      refine lv_goto (tgt := 17) hx hb dX5_isThing_13 (by decide) ?_
      exact nc_rtp hret hf rfl hw dX5_isThing_17
abbrev rm_X4_tellOf : Room := { frames := 0, cells := 0, slots := 0, locals := 0 }
set_option maxRecDepth 100000 in
set_option maxHeartbeats 4000000 in
theorem c_X4_tellOf (l : Launch) {G : nc_G} {K : nc_K} {o : Nat} (h0 : nc_LThing G K o) (mi : nc_Mem) (a1 : Int32) (res : Int32) (hf : f_X4_tellOf mi o a1 = res) : nc_M l yX4_tellOf cX4_tellOf 2 (some .int) rm_X4_tellOf 0 0 G K K [.ref o, .int a1] mi mi (some (.int res)) := by
  refine nc_meet_i (by decide) (Nat.le_of_ble_eq_true rfl) ?_
  intro p e s m args below meth c Q H locs ls cx hret hw hl
  have cx : nc_C p s m args c cX4_tellOf 2 RX4 G := cx
  have hl : lv_has ls 2 [(0, .ref o), (1, .int a1)] := hl
  have hx := cx.1
  have hb := cx.2.1
  unfold f_X4_tellOf at hf
  refine lv_iload_n hx hb dX4_tellOf_0 rfl (lv_at hl 1 rfl) ?_
  by_cases c1 : a1 = 0
  · have hf := nc_ifp hf c1
    refine lv_tableIn (tgt := 52) (off := 51) hx hb dX4_tellOf_1 (by rw [c1]; decide) (by rw [c1]; decide) (by rw [c1]; rfl) (by decide) ?_
    refine lv_aload_n hx hb dX4_tellOf_52 rfl (lv_at hl 0 rfl) ?_
    refine gi_X4_7 cx hw (lThing_is h0) dX4_tellOf_53 ?_
    exact nc_rtp hret hf rfl hw dX4_tellOf_56
  · have hf := nc_ifn hf c1
    by_cases c2 : a1 = 1
    · have hf := nc_ifp hf c2
      refine lv_tableIn (tgt := 57) (off := 56) hx hb dX4_tellOf_1 (by rw [c2]; decide) (by rw [c2]; decide) (by rw [c2]; rfl) (by decide) ?_
      refine lv_aload_n hx hb dX4_tellOf_57 rfl (lv_at hl 0 rfl) ?_
      refine gi_X4_13 cx hw (lThing_is h0) dX4_tellOf_58 ?_
      exact nc_rtp hret hf rfl hw dX4_tellOf_61
    · have hf := nc_ifn hf c2
      by_cases c3 : a1 = 2
      · have hf := nc_ifp hf c3
        refine lv_tableIn (tgt := 62) (off := 61) hx hb dX4_tellOf_1 (by rw [c3]; decide) (by rw [c3]; decide) (by rw [c3]; rfl) (by decide) ?_
        refine lv_aload_n hx hb dX4_tellOf_62 rfl (lv_at hl 0 rfl) ?_
        refine gi_X4_16 cx hw (lThing_is h0) dX4_tellOf_63 ?_
        exact nc_rtp hret hf rfl hw dX4_tellOf_66
      · have hf := nc_ifn hf c3
        by_cases c4 : a1 = 3
        · have hf := nc_ifp hf c4
          refine lv_tableIn (tgt := 67) (off := 66) hx hb dX4_tellOf_1 (by rw [c4]; decide) (by rw [c4]; decide) (by rw [c4]; rfl) (by decide) ?_
          refine lv_aload_n hx hb dX4_tellOf_67 rfl (lv_at hl 0 rfl) ?_
          refine gi_X4_19 cx hw (lThing_is h0) dX4_tellOf_68 ?_
          exact nc_rtp hret hf rfl hw dX4_tellOf_71
        · have hf := nc_ifn hf c4
          by_cases c5 : a1 = 4
          · have hf := nc_ifp hf c5
            refine lv_tableIn (tgt := 72) (off := 71) hx hb dX4_tellOf_1 (by rw [c5]; decide) (by rw [c5]; decide) (by rw [c5]; rfl) (by decide) ?_
            refine lv_aload_n hx hb dX4_tellOf_72 rfl (lv_at hl 0 rfl) ?_
            refine gi_X4_22 cx hw (lThing_is h0) dX4_tellOf_73 ?_
            exact nc_rtp hret hf rfl hw dX4_tellOf_76
          · have hf := nc_ifn hf c5
            by_cases c6 : a1 = 5
            · have hf := nc_ifp hf c6
              refine lv_tableIn (tgt := 77) (off := 76) hx hb dX4_tellOf_1 (by rw [c6]; decide) (by rw [c6]; decide) (by rw [c6]; rfl) (by decide) ?_
              refine lv_aload_n hx hb dX4_tellOf_77 rfl (lv_at hl 0 rfl) ?_
              refine gi_X4_25 cx hw (lThing_is h0) dX4_tellOf_78 ?_
              exact nc_rtp hret hf rfl hw dX4_tellOf_81
            · have hf := nc_ifn hf c6
              by_cases c7 : a1 = 6
              · have hf := nc_ifp hf c7
                refine lv_tableIn (tgt := 82) (off := 81) hx hb dX4_tellOf_1 (by rw [c7]; decide) (by rw [c7]; decide) (by rw [c7]; rfl) (by decide) ?_
                refine lv_aload_n hx hb dX4_tellOf_82 rfl (lv_at hl 0 rfl) ?_
                refine gi_X4_28 cx hw (lThing_is h0) dX4_tellOf_83 ?_
                exact nc_rtp hret hf rfl hw dX4_tellOf_86
              · have hf := nc_ifn hf c7
                by_cases c8 : a1 = 7
                · have hf := nc_ifp hf c8
                  refine lv_tableIn (tgt := 87) (off := 86) hx hb dX4_tellOf_1 (by rw [c8]; decide) (by rw [c8]; decide) (by rw [c8]; rfl) (by decide) ?_
                  refine lv_aload_n hx hb dX4_tellOf_87 rfl (lv_at hl 0 rfl) ?_
                  refine gi_X4_31 cx hw (lThing_is h0) dX4_tellOf_88 ?_
                  exact nc_rtp hret hf rfl hw dX4_tellOf_91
                · have hf := nc_ifn hf c8
                  by_cases c9 : a1 = 8
                  · have hf := nc_ifp hf c9
                    refine lv_tableIn (tgt := 92) (off := 91) hx hb dX4_tellOf_1 (by rw [c9]; decide) (by rw [c9]; decide) (by rw [c9]; rfl) (by decide) ?_
                    refine lv_aload_n hx hb dX4_tellOf_92 rfl (lv_at hl 0 rfl) ?_
                    refine gi_X4_34 cx hw (lThing_is h0) dX4_tellOf_93 ?_
                    exact nc_rtp hret hf rfl hw dX4_tellOf_96
                  · have hf := nc_ifn hf c9
                    refine lv_tableOut (tgt := 97) hx hb dX4_tellOf_1 (by have nc1 := lv_neT (a := 0) c1 (by decide); have nc2 := lv_neT (a := 1) c2 (by decide); have nc3 := lv_neT (a := 2) c3 (by decide); have nc4 := lv_neT (a := 3) c4 (by decide); have nc5 := lv_neT (a := 4) c5 (by decide); have nc6 := lv_neT (a := 5) c6 (by decide); have nc7 := lv_neT (a := 6) c7 (by decide); have nc8 := lv_neT (a := 7) c8 (by decide); have nc9 := lv_neT (a := 8) c9 (by decide); omega) (by decide) ?_
                    refine lv_aload_n hx hb dX4_tellOf_97 rfl (lv_at hl 0 rfl) ?_
                    refine gi_X4_37 cx hw (lThing_is h0) dX4_tellOf_98 ?_
                    exact nc_rtp hret hf rfl hw dX4_tellOf_101
abbrev rm_X7_thing : Room := { frames := 1, cells := 0, slots := 0, locals := 22 }
set_option maxRecDepth 100000 in
set_option maxHeartbeats 4000000 in
theorem c_X7_thing (l : Launch) {G : nc_G} {K : nc_K} {o : Nat} (h0 : nc_LNC G K o) (mi : nc_Mem) (a1 a2 : Int32) (res : nc_Mem × Int32) (hf : f_X7_thing mi o a1 a2 = some res) : nc_M l yX7_thing cX7_thing 3 (some .int) rm_X7_thing 0 0 G K K [.ref o, .int a1, .int a2] mi res.1 (some (.int res.2)) := by
  refine nc_meet_i (by decide) (Nat.le_of_ble_eq_true rfl) ?_
  intro p e s m args below meth c Q H locs ls cx hret hw hl
  have cx : nc_C p s m args c cX7_thing 3 RX7 G := cx
  have hl : lv_has ls 3 [(0, .ref o), (1, .int a1), (2, .int a2)] := hl
  have hx := cx.1
  have hb := cx.2.1
  unfold f_X7_thing at hf
  refine lv_aload_n hx hb dX7_thing_0 rfl (lv_at hl 0 rfl) ?_
  refine gr_X7_10 cx hw (lNC_is h0) (lNC_now h0) (lTown_is (lNC_now_L h0)) dX7_thing_1 ?_
  refine lv_iload_n hx hb dX7_thing_4 rfl (lv_at hl 1 rfl) ?_
  refine nc_callVi cx hw lk_X7_101 (c_X5_isThing l (lNC_now_L h0) mi a1 _ rfl) (ci := 5) rfl (lTown_is (lNC_now_L h0)) rfl hl.1 rfl (Nat.le_of_ble_eq_true rfl) ⟨rfl, rfl, Nat.le_of_ble_eq_true rfl, Nat.le_of_ble_eq_true rfl⟩ dX7_thing_5 (fun H locs hw => ?_)
  refine lv_if_ne (tgt := 17) hx hb dX7_thing_8 (by decide) (fun c1 => ?_) (fun c1 => ?_)
  · have hf := nc_ifn hf c1
    refine lv_iload_n hx hb dX7_thing_17 rfl (lv_at hl 2 rfl) ?_
    obtain ⟨k2, ek2, hf⟩ := nc_jn_of hf
    have hk2 : k2 = some res → ∀ (H : Heap) (locs : List Loc) (ls : Array Slot), nc_W G K mi H locs → lv_has ls 3 [(0, .ref o)] → W p l e rm_X7_thing s m args below meth c H locs 0 0 Q (F0 m 27 ls []) := by
      intro hf H locs ls hw hl
      have hf := (ek2).symm.trans hf
      refine lv_aload_n hx hb dX7_thing_27 rfl (lv_at hl 0 rfl) ?_
      refine lv_bipush (v := (-2)) hx hb dX7_thing_28 (by decide) ?_
      obtain ⟨q3, hq3, hf⟩ := nc_bi hf
      refine nc_callVi cx hw lk_X7_60 (c_X7_refuse l h0 mi (-2) q3 hq3) (ci := 7) rfl (lNC_is h0) rfl hl.1 rfl (Nat.le_of_ble_eq_true rfl) ⟨rfl, rfl, Nat.le_of_ble_eq_true rfl, Nat.le_of_ble_eq_true rfl⟩ dX7_thing_30 (fun H locs hw => ?_)
      exact nc_rpm hret hf rfl hw dX7_thing_33
    refine lv_if_lt (tgt := 27) hx hb dX7_thing_18 (by decide) (fun c4 => ?_) (fun c4 => ?_)
    · have hf := nc_ifp hf c4
      exact hk2 hf _ _ _ hw (lv_sub hl [0] rfl)
    · have hf := nc_ifn hf c4
      refine lv_iload_n hx hb dX7_thing_21 rfl (lv_at hl 2 rfl) ?_
      refine lv_bipush (v := 9) hx hb dX7_thing_22 (by decide) ?_
      refine lv_icmp_le (tgt := 34) hx hb dX7_thing_24 (by decide) (fun c5 => ?_) (fun c5 => ?_)
      · have hf := nc_ifp hf c5
        refine lv_aload_n hx hb dX7_thing_34 rfl (lv_at hl 0 rfl) ?_
        refine gr_X7_10 cx hw (lNC_is h0) (lNC_now h0) (lTown_is (lNC_now_L h0)) dX7_thing_35 ?_
        refine gr_X7_104 cx hw (lTown_is (lNC_now_L h0)) (lTown_goods (lNC_now_L h0)) (lTown_goods_L (lNC_now_L h0)) dX7_thing_38 ?_
        refine lv_iload_n hx hb dX7_thing_41 rfl (lv_at hl 1 rfl) ?_
        obtain ⟨j6, ej6, ij6, lj6, hf⟩ := nc_ix hf
        refine nc_ald cx hw (by decide) (lTown_goods_L (lNC_now_L h0)) ij6 ej6 ((lTown_goods_E (lNC_now_L h0) j6 lj6)).1 (lThing_is ((lTown_goods_E (lNC_now_L h0) j6 lj6)).2) dX7_thing_42 ?_
        refine lv_iload_n hx hb dX7_thing_43 rfl (lv_at hl 2 rfl) ?_
        refine nc_callVi cx hw lk_X7_108 (c_X4_tellOf l ((lTown_goods_E (lNC_now_L h0) j6 lj6)).2 mi a2 _ rfl) (ci := 4) rfl (lThing_is ((lTown_goods_E (lNC_now_L h0) j6 lj6)).2) rfl hl.1 rfl (Nat.le_of_ble_eq_true rfl) ⟨rfl, rfl, Nat.le_of_ble_eq_true rfl, Nat.le_of_ble_eq_true rfl⟩ dX7_thing_44 (fun H locs hw => ?_)
        exact nc_rpm hret hf rfl hw dX7_thing_47
      · have hf := nc_ifn hf c5
        exact hk2 hf _ _ _ hw (lv_sub hl [0] rfl)
  · have hf := nc_ifp hf c1
    refine lv_aload_n hx hb dX7_thing_11 rfl (lv_at hl 0 rfl) ?_
    refine lv_iconst (v := (-1)) hx hb dX7_thing_12 (by decide) ?_
    obtain ⟨q7, hq7, hf⟩ := nc_bi hf
    refine nc_callVi cx hw lk_X7_60 (c_X7_refuse l h0 mi (-1) q7 hq7) (ci := 7) rfl (lNC_is h0) rfl hl.1 rfl (Nat.le_of_ble_eq_true rfl) ⟨rfl, rfl, Nat.le_of_ble_eq_true rfl, Nat.le_of_ble_eq_true rfl⟩ dX7_thing_13 (fun H locs hw => ?_)
    exact nc_rpm hret hf rfl hw dX7_thing_16
abbrev rm_X7_law : Room := { frames := 1, cells := 0, slots := 0, locals := 22 }
set_option maxRecDepth 100000 in
set_option maxHeartbeats 4000000 in
theorem c_X7_law (l : Launch) {G : nc_G} {K : nc_K} {o : Nat} (h0 : nc_LNC G K o) (mi : nc_Mem) (a1 : Int32) (res : nc_Mem × Int32) (hf : f_X7_law mi o a1 = some res) : nc_M l yX7_law cX7_law 3 (some .int) rm_X7_law 0 0 G K K [.ref o, .int a1] mi res.1 (some (.int res.2)) := by
  refine nc_meet_i (by decide) (Nat.le_of_ble_eq_true rfl) ?_
  intro p e s m args below meth c Q H locs ls cx hret hw hl
  have cx : nc_C p s m args c cX7_law 3 RX7 G := cx
  have hl : lv_has ls 3 [(0, .ref o), (1, .int a1)] := hl
  have hx := cx.1
  have hb := cx.2.1
  unfold f_X7_law at hf
  refine lv_iload_n hx hb dX7_law_0 rfl (lv_at hl 1 rfl) ?_
  obtain ⟨k1, ek1, hf⟩ := nc_jn_of hf
  have hk1 : k1 = some res → ∀ (H : Heap) (locs : List Loc) (ls : Array Slot), nc_W G K mi H locs → lv_has ls 3 [(0, .ref o)] → W p l e rm_X7_law s m args below meth c H locs 0 0 Q (F0 m 9 ls []) := by
    intro hf H locs ls hw hl
    have hf := (ek1).symm.trans hf
    refine lv_aload_n hx hb dX7_law_9 rfl (lv_at hl 0 rfl) ?_
    refine lv_bipush (v := (-2)) hx hb dX7_law_10 (by decide) ?_
    obtain ⟨q2, hq2, hf⟩ := nc_bi hf
    refine nc_callVi cx hw lk_X7_60 (c_X7_refuse l h0 mi (-2) q2 hq2) (ci := 7) rfl (lNC_is h0) rfl hl.1 rfl (Nat.le_of_ble_eq_true rfl) ⟨rfl, rfl, Nat.le_of_ble_eq_true rfl, Nat.le_of_ble_eq_true rfl⟩ dX7_law_12 (fun H locs hw => ?_)
    exact nc_rpm hret hf rfl hw dX7_law_15
  refine lv_if_lt (tgt := 9) hx hb dX7_law_1 (by decide) (fun c3 => ?_) (fun c3 => ?_)
  · have hf := nc_ifp hf c3
    exact hk1 hf _ _ _ hw (lv_sub hl [0] rfl)
  · have hf := nc_ifn hf c3
    refine lv_iload_n hx hb dX7_law_4 rfl (lv_at hl 1 rfl) ?_
    refine lv_iconst (v := 4) hx hb dX7_law_5 (by decide) ?_
    refine lv_icmp_le (tgt := 16) hx hb dX7_law_6 (by decide) (fun c4 => ?_) (fun c4 => ?_)
    · have hf := nc_ifp hf c4
      refine lv_aload_n hx hb dX7_law_16 rfl (lv_at hl 0 rfl) ?_
      refine gr_X7_10 cx hw (lNC_is h0) (lNC_now h0) (lTown_is (lNC_now_L h0)) dX7_law_17 ?_
      refine gi_X7_111 cx hw (lTown_is (lNC_now_L h0)) dX7_law_20 ?_
      refine lv_topi (fun x5 ex5 => ?_)
      have hf := nc_let_at hf ex5
      refine lv_istore_n (lv' := [(2, .int x5), (0, .ref o), (1, .int a1)]) hx hb dX7_law_23 rfl hl (by decide) rfl (fun ls hl => ?_)
      refine lv_aload_n hx hb dX7_law_24 rfl (lv_at hl 1 rfl) ?_
      refine gr_X7_10 cx hw (lNC_is h0) (lNC_now h0) (lTown_is (lNC_now_L h0)) dX7_law_25 ?_
      refine lv_iload_n hx hb dX7_law_28 rfl (lv_at hl 2 rfl) ?_
      refine pi_X7_111 cx hw (lTown_is (lNC_now_L h0)) dX7_law_29 (fun mi6 H locs emi6 hw => ?_)
      have hf := nc_let_at hf emi6
      refine lv_iload_n hx hb dX7_law_32 rfl (lv_at hl 0 rfl) ?_
      exact nc_rpm hret hf rfl hw dX7_law_33
    · have hf := nc_ifn hf c4
      exact hk1 hf _ _ _ hw (lv_sub hl [0] rfl)
abbrev rm_X5_fits : Room := { frames := 0, cells := 0, slots := 0, locals := 0 }
set_option maxRecDepth 100000 in
set_option maxHeartbeats 4000000 in
theorem c_X5_fits (l : Launch) {G : nc_G} {K : nc_K} {o : Nat} (h0 : nc_LTown G K o) (mi : nc_Mem) (a1 a2 : Int32) (res : Int32) (hf : f_X5_fits mi o a1 a2 = some res) : nc_M l yX5_fits cX5_fits 3 (some .boolean) rm_X5_fits 0 0 G K K [.ref o, .int a1, .int a2] mi mi (some (.int res)) := by
  refine nc_meet_i (by decide) (Nat.le_of_ble_eq_true rfl) ?_
  intro p e s m args below meth c Q H locs ls cx hret hw hl
  have cx : nc_C p s m args c cX5_fits 3 RX5 G := cx
  have hl : lv_has ls 3 [(0, .ref o), (1, .int a1), (2, .int a2)] := hl
  have hx := cx.1
  have hb := cx.2.1
  unfold f_X5_fits at hf
  refine lv_aload_n hx hb dX5_fits_0 rfl (lv_at hl 0 rfl) ?_
  refine gr_X5_19 cx hw (lTown_is h0) (lTown_goods h0) (lTown_goods_L h0) dX5_fits_1 ?_
  refine lv_iload_n hx hb dX5_fits_4 rfl (lv_at hl 2 rfl) ?_
  obtain ⟨j1, ej1, ij1, lj1, hf⟩ := nc_ix hf
  refine nc_ald cx hw (by decide) (lTown_goods_L h0) ij1 ej1 ((lTown_goods_E h0 j1 lj1)).1 (lThing_is ((lTown_goods_E h0 j1 lj1)).2) dX5_fits_5 ?_
  refine gi_X5_124 cx hw (lThing_is ((lTown_goods_E h0 j1 lj1)).2) dX5_fits_6 ?_
  refine lv_aload_n hx hb dX5_fits_9 rfl (lv_at hl 0 rfl) ?_
  refine gr_X5_11 cx hw (lTown_is h0) (lTown_people h0) (lTown_people_L h0) dX5_fits_10 ?_
  refine lv_iload_n hx hb dX5_fits_13 rfl (lv_at hl 1 rfl) ?_
  obtain ⟨j2, ej2, ij2, lj2, hf⟩ := nc_ix hf
  refine nc_ald cx hw (by decide) (lTown_people_L h0) ij2 ej2 ((lTown_people_E h0 j2 lj2)).1 (lPerson_is ((lTown_people_E h0 j2 lj2)).2) dX5_fits_14 ?_
  refine gi_X5_109 cx hw (lPerson_is ((lTown_people_E h0 j2 lj2)).2) dX5_fits_15 ?_
  refine lv_icmp_gt (tgt := 25) hx hb dX5_fits_18 (by decide) (fun c3 => ?_) (fun c3 => ?_)
  · have hf := nc_ifp hf c3
    refine lv_iconst (v := 0) hx hb dX5_fits_25 (by decide) ?_
    exact nc_rpp hret hf rfl hw dX5_fits_26
  · have hf := nc_ifn hf c3
    refine lv_iconst (v := 1) hx hb dX5_fits_21 (by decide) ?_
    refine lv_goto (tgt := 26) hx hb dX5_fits_22 (by decide) ?_
    exact nc_rpp hret hf rfl hw dX5_fits_26
abbrev rm_X5_lawLets : Room := { frames := 0, cells := 0, slots := 0, locals := 0 }
set_option maxRecDepth 100000 in
set_option maxHeartbeats 4000000 in
theorem c_X5_lawLets (l : Launch) {G : nc_G} {K : nc_K} {o : Nat} (h0 : nc_LTown G K o) (mi : nc_Mem) (a1 a2 a3 a4 a5 : Int32) (res : Int32) (hf : f_X5_lawLets mi o a1 a2 a3 a4 a5 = some res) : nc_M l yX5_lawLets cX5_lawLets 8 (some .boolean) rm_X5_lawLets 0 0 G K K [.ref o, .int a1, .int a2, .int a3, .int a4, .int a5] mi mi (some (.int res)) := by
  refine nc_meet_i (by decide) (Nat.le_of_ble_eq_true rfl) ?_
  intro p e s m args below meth c Q H locs ls cx hret hw hl
  have cx : nc_C p s m args c cX5_lawLets 8 RX5 G := cx
  have hl : lv_has ls 8 [(0, .ref o), (1, .int a1), (2, .int a2), (3, .int a3), (4, .int a4), (5, .int a5)] := hl
  have hx := cx.1
  have hb := cx.2.1
  unfold f_X5_lawLets at hf
  refine lv_iload_n hx hb dX5_lawLets_0 rfl (lv_at hl 1 rfl) ?_
  refine lv_iconst (v := 3) hx hb dX5_lawLets_1 (by decide) ?_
  refine lv_icmp_eq (tgt := 18) hx hb dX5_lawLets_2 (by decide) (fun c1 => ?_) (fun c1 => ?_)
  · have hf := nc_ifp hf c1
    refine lv_iconst (v := 1) hx hb dX5_lawLets_18 (by decide) ?_
    exact nc_rpp hret hf rfl hw dX5_lawLets_19
  · have hf := nc_ifn hf c1
    refine lv_iload_n hx hb dX5_lawLets_5 rfl (lv_at hl 1 rfl) ?_
    refine lv_iconst (v := 4) hx hb dX5_lawLets_6 (by decide) ?_
    obtain ⟨k2, ek2, hf⟩ := nc_jn_of hf
    have hk2 : k2 = some res → ∀ (H : Heap) (locs : List Loc) (ls : Array Slot), nc_W G K mi H locs → lv_has ls 8 [(0, .ref o), (1, .int a1), (2, .int a2), (3, .int a3), (4, .int a4), (5, .int a5)] → W p l e rm_X5_lawLets s m args below meth c H locs 0 0 Q (F0 m 20 ls []) := by
      intro hf H locs ls hw hl
      have hf := (ek2).symm.trans hf
      refine lv_aload_n hx hb dX5_lawLets_20 rfl (lv_at hl 0 rfl) ?_
      refine gr_X5_19 cx hw (lTown_is h0) (lTown_goods h0) (lTown_goods_L h0) dX5_lawLets_21 ?_
      refine lv_iload_n hx hb dX5_lawLets_24 rfl (lv_at hl 3 rfl) ?_
      obtain ⟨j3, ej3, ij3, lj3, hf⟩ := nc_ix hf
      refine nc_ald cx hw (by decide) (lTown_goods_L h0) ij3 ej3 ((lTown_goods_E h0 j3 lj3)).1 (lThing_is ((lTown_goods_E h0 j3 lj3)).2) dX5_lawLets_25 ?_
      refine lv_astore (lv' := [(6, .ref (o + 11 + j3)), (0, .ref o), (1, .int a1), (2, .int a2), (3, .int a3), (4, .int a4), (5, .int a5)]) hx hb dX5_lawLets_26 hl (by decide) rfl (fun ls hl => ?_)
      refine lv_iload_n hx hb dX5_lawLets_28 rfl (lv_at hl 3 rfl) ?_
      refine lv_aload hx hb dX5_lawLets_29 (lv_at hl 0 rfl) ?_
      refine gi_X5_118 cx hw (lThing_is ((lTown_goods_E h0 j3 lj3)).2) dX5_lawLets_31 ?_
      obtain ⟨k4, ek4, hf⟩ := nc_jn_of hf
      have hk4 : k4 = some res → ∀ (H : Heap) (locs : List Loc) (ls : Array Slot), nc_W G K mi H locs → lv_has ls 8 [(1, .int a1), (4, .int a4), (5, .int a5)] → W p l e rm_X5_lawLets s m args below meth c H locs 0 0 Q (F0 m 46 ls []) := by
        intro hf H locs ls hw hl
        have hf := (ek4).symm.trans hf
        refine lv_iload_n hx hb dX5_lawLets_46 rfl (lv_at hl 0 rfl) ?_
        refine lv_iconst (v := 2) hx hb dX5_lawLets_47 (by decide) ?_
        refine lv_icmp_ne (tgt := 77) hx hb dX5_lawLets_48 (by decide) (fun c5 => ?_) (fun c5 => ?_)
        · have hf := nc_ifn hf c5
          refine lv_iconst (v := 0) hx hb dX5_lawLets_77 (by decide) ?_
          exact nc_rpp hret hf rfl hw dX5_lawLets_78
        · have hf := nc_ifp hf c5
          refine lv_iload hx hb dX5_lawLets_51 (lv_at hl 2 rfl) ?_
          refine lv_if_lt (tgt := 77) hx hb dX5_lawLets_53 (by decide) (fun c6 => ?_) (fun c6 => ?_)
          · have hf := nc_ifp hf c6
            refine lv_iconst (v := 0) hx hb dX5_lawLets_77 (by decide) ?_
            exact nc_rpp hret hf rfl hw dX5_lawLets_78
          · have hf := nc_ifn hf c6
            refine lv_iload hx hb dX5_lawLets_56 (lv_at hl 1 rfl) ?_
            refine lv_iload hx hb dX5_lawLets_58 (lv_at hl 2 rfl) ?_
            refine lv_icmp_lt (tgt := 77) hx hb dX5_lawLets_60 (by decide) (fun c7 => ?_) (fun c7 => ?_)
            · have hf := nc_ifp hf c7
              refine lv_iconst (v := 0) hx hb dX5_lawLets_77 (by decide) ?_
              exact nc_rpp hret hf rfl hw dX5_lawLets_78
            · have hf := nc_ifn hf c7
              refine lv_iload hx hb dX5_lawLets_63 (lv_at hl 1 rfl) ?_
              refine lv_iload hx hb dX5_lawLets_65 (lv_at hl 2 rfl) ?_
              refine lv_isub hx hb dX5_lawLets_67 ?_
              refine lv_bipush (v := 60) hx hb dX5_lawLets_68 (by decide) ?_
              refine lv_icmp_ge (tgt := 77) hx hb dX5_lawLets_70 (by decide) (fun c8 => ?_) (fun c8 => ?_)
              · have hf := nc_ifp hf c8
                refine lv_iconst (v := 0) hx hb dX5_lawLets_77 (by decide) ?_
                exact nc_rpp hret hf rfl hw dX5_lawLets_78
              · have hf := nc_ifn hf c8
                refine lv_iconst (v := 1) hx hb dX5_lawLets_73 (by decide) ?_
                refine lv_goto (tgt := 78) hx hb dX5_lawLets_74 (by decide) ?_
                exact nc_rpp hret hf rfl hw dX5_lawLets_78
      refine lv_icmp_eq (tgt := 46) hx hb dX5_lawLets_34 (by decide) (fun c9 => ?_) (fun c9 => ?_)
      · have hf := nc_ifp hf c9
        exact hk4 hf _ _ _ hw (lv_sub hl [2, 5, 6] rfl)
      · have hf := nc_ifn hf c9
        refine lv_iload_n hx hb dX5_lawLets_37 rfl (lv_at hl 3 rfl) ?_
        refine lv_aload hx hb dX5_lawLets_38 (lv_at hl 0 rfl) ?_
        refine gi_X5_121 cx hw (lThing_is ((lTown_goods_E h0 j3 lj3)).2) dX5_lawLets_40 ?_
        refine lv_icmp_ne (tgt := 79) hx hb dX5_lawLets_43 (by decide) (fun c10 => ?_) (fun c10 => ?_)
        · have hf := nc_ifn hf c10
          refine lv_iload_n hx hb dX5_lawLets_79 rfl (lv_at hl 2 rfl) ?_
          refine lv_iconst (v := 1) hx hb dX5_lawLets_80 (by decide) ?_
          obtain ⟨k11, ek11, hf⟩ := nc_jn_of hf
          have hk11 : k11 = some res → ∀ (H : Heap) (locs : List Loc) (ls : Array Slot), nc_W G K mi H locs → lv_has ls 8 [(0, .ref o), (2, .int a2), (6, .ref (o + 11 + j3))] → W p l e rm_X5_lawLets s m args below meth c H locs 0 0 Q (F0 m 91 ls []) := by
            intro hf H locs ls hw hl
            have hf := (ek11).symm.trans hf
            refine lv_aload_n hx hb dX5_lawLets_91 rfl (lv_at hl 0 rfl) ?_
            refine gr_X5_11 cx hw (lTown_is h0) (lTown_people h0) (lTown_people_L h0) dX5_lawLets_92 ?_
            refine lv_iload_n hx hb dX5_lawLets_95 rfl (lv_at hl 1 rfl) ?_
            obtain ⟨j12, ej12, ij12, lj12, hf⟩ := nc_ix hf
            refine nc_ald cx hw (by decide) (lTown_people_L h0) ij12 ej12 ((lTown_people_E h0 j12 lj12)).1 (lPerson_is ((lTown_people_E h0 j12 lj12)).2) dX5_lawLets_96 ?_
            refine gi_X5_106 cx hw (lPerson_is ((lTown_people_E h0 j12 lj12)).2) dX5_lawLets_97 ?_
            refine lv_topi (fun x13 ex13 => ?_)
            have hf := nc_let_at hf ex13
            refine lv_istore (lv' := [(7, .int x13), (0, .ref o), (2, .int a2), (6, .ref (o + 11 + j3))]) hx hb dX5_lawLets_100 hl (by decide) rfl (fun ls hl => ?_)
            refine lv_iload hx hb dX5_lawLets_102 (lv_at hl 0 rfl) ?_
            refine lv_if_eq (tgt := 143) hx hb dX5_lawLets_104 (by decide) (fun c14 => ?_) (fun c14 => ?_)
            · have hf := nc_ifp hf c14
              refine lv_iconst (v := 1) hx hb dX5_lawLets_143 (by decide) ?_
              refine lv_goto (tgt := 148) hx hb dX5_lawLets_144 (by decide) ?_
              exact nc_rpp hret hf rfl hw dX5_lawLets_148
            · have hf := nc_ifn hf c14
              refine lv_iload hx hb dX5_lawLets_107 (lv_at hl 0 rfl) ?_
              refine lv_aload_n hx hb dX5_lawLets_109 rfl (lv_at hl 1 rfl) ?_
              refine gr_X5_11 cx hw (lTown_is h0) (lTown_people h0) (lTown_people_L h0) dX5_lawLets_110 ?_
              refine lv_aload hx hb dX5_lawLets_113 (lv_at hl 3 rfl) ?_
              refine gi_X5_118 cx hw (lThing_is ((lTown_goods_E h0 j3 lj3)).2) dX5_lawLets_115 ?_
              obtain ⟨j15, ej15, ij15, lj15, hf⟩ := nc_ix hf
              refine nc_ald cx hw (by decide) (lTown_people_L h0) ij15 ej15 ((lTown_people_E h0 j15 lj15)).1 (lPerson_is ((lTown_people_E h0 j15 lj15)).2) dX5_lawLets_118 ?_
              refine gi_X5_106 cx hw (lPerson_is ((lTown_people_E h0 j15 lj15)).2) dX5_lawLets_119 ?_
              refine lv_icmp_eq (tgt := 147) hx hb dX5_lawLets_122 (by decide) (fun c16 => ?_) (fun c16 => ?_)
              · have hf := nc_ifp hf c16
                refine lv_iconst (v := 0) hx hb dX5_lawLets_147 (by decide) ?_
                exact nc_rpp hret hf rfl hw dX5_lawLets_148
              · have hf := nc_ifn hf c16
                refine lv_iload hx hb dX5_lawLets_125 (lv_at hl 0 rfl) ?_
                refine lv_aload_n hx hb dX5_lawLets_127 rfl (lv_at hl 1 rfl) ?_
                refine gr_X5_11 cx hw (lTown_is h0) (lTown_people h0) (lTown_people_L h0) dX5_lawLets_128 ?_
                refine lv_aload hx hb dX5_lawLets_131 (lv_at hl 3 rfl) ?_
                refine gi_X5_121 cx hw (lThing_is ((lTown_goods_E h0 j3 lj3)).2) dX5_lawLets_133 ?_
                obtain ⟨j17, ej17, ij17, lj17, hf⟩ := nc_ix hf
                refine nc_ald cx hw (by decide) (lTown_people_L h0) ij17 ej17 ((lTown_people_E h0 j17 lj17)).1 (lPerson_is ((lTown_people_E h0 j17 lj17)).2) dX5_lawLets_136 ?_
                refine gi_X5_106 cx hw (lPerson_is ((lTown_people_E h0 j17 lj17)).2) dX5_lawLets_137 ?_
                refine lv_icmp_eq (tgt := 147) hx hb dX5_lawLets_140 (by decide) (fun c18 => ?_) (fun c18 => ?_)
                · have hf := nc_ifp hf c18
                  refine lv_iconst (v := 0) hx hb dX5_lawLets_147 (by decide) ?_
                  exact nc_rpp hret hf rfl hw dX5_lawLets_148
                · have hf := nc_ifn hf c18
                  refine lv_iconst (v := 1) hx hb dX5_lawLets_143 (by decide) ?_
                  refine lv_goto (tgt := 148) hx hb dX5_lawLets_144 (by decide) ?_
                  exact nc_rpp hret hf rfl hw dX5_lawLets_148
          refine lv_icmp_eq (tgt := 91) hx hb dX5_lawLets_81 (by decide) (fun c19 => ?_) (fun c19 => ?_)
          · have hf := nc_ifp hf c19
            exact hk11 hf _ _ _ hw (lv_sub hl [1, 3, 0] rfl)
          · have hf := nc_ifn hf c19
            refine lv_iload_n hx hb dX5_lawLets_84 rfl (lv_at hl 2 rfl) ?_
            refine lv_iconst (v := 4) hx hb dX5_lawLets_85 (by decide) ?_
            refine lv_icmp_eq (tgt := 91) hx hb dX5_lawLets_86 (by decide) (fun c20 => ?_) (fun c20 => ?_)
            · have hf := nc_ifp hf c20
              exact hk11 hf _ _ _ hw (lv_sub hl [1, 3, 0] rfl)
            · have hf := nc_ifn hf c20
              refine lv_iconst (v := 1) hx hb dX5_lawLets_89 (by decide) ?_
              exact nc_rpp hret hf rfl hw dX5_lawLets_90
        · have hf := nc_ifp hf c10
          exact hk4 hf _ _ _ hw (lv_sub hl [2, 5, 6] rfl)
    refine lv_icmp_ne (tgt := 20) hx hb dX5_lawLets_7 (by decide) (fun c21 => ?_) (fun c21 => ?_)
    · have hf := nc_ifn hf c21
      exact hk2 hf _ _ _ hw (lv_sub hl [0, 1, 2, 3, 4, 5] rfl)
    · have hf := nc_ifp hf c21
      refine lv_iload hx hb dX5_lawLets_10 (lv_at hl 4 rfl) ?_
      refine lv_sipush (v := 720) hx hb dX5_lawLets_12 (by decide) ?_
      refine lv_icmp_lt (tgt := 20) hx hb dX5_lawLets_15 (by decide) (fun c22 => ?_) (fun c22 => ?_)
      · have hf := nc_ifp hf c22
        exact hk2 hf _ _ _ hw (lv_sub hl [0, 1, 2, 3, 4, 5] rfl)
      · have hf := nc_ifn hf c22
        refine lv_iconst (v := 1) hx hb dX5_lawLets_18 (by decide) ?_
        exact nc_rpp hret hf rfl hw dX5_lawLets_19
abbrev rm_X5_letsCarry : Room := { frames := 1, cells := 0, slots := 0, locals := 27 }
set_option maxRecDepth 100000 in
set_option maxHeartbeats 4000000 in
theorem c_X5_letsCarry (l : Launch) {G : nc_G} {K : nc_K} {o : Nat} (h0 : nc_LTown G K o) (mi : nc_Mem) (a1 a2 a3 : Int32) (res : Int32) (hf : f_X5_letsCarry mi o a1 a2 a3 = some res) : nc_M l yX5_letsCarry cX5_letsCarry 4 (some .boolean) rm_X5_letsCarry 0 0 G K K [.ref o, .int a1, .int a2, .int a3] mi mi (some (.int res)) := by
  refine nc_meet_i (by decide) (Nat.le_of_ble_eq_true rfl) ?_
  intro p e s m args below meth c Q H locs ls cx hret hw hl
  have cx : nc_C p s m args c cX5_letsCarry 4 RX5 G := cx
  have hl : lv_has ls 4 [(0, .ref o), (1, .int a1), (2, .int a2), (3, .int a3)] := hl
  have hx := cx.1
  have hb := cx.2.1
  unfold f_X5_letsCarry at hf
  refine lv_aload_n hx hb dX5_letsCarry_0 rfl (lv_at hl 0 rfl) ?_
  refine lv_iload_n hx hb dX5_letsCarry_1 rfl (lv_at hl 1 rfl) ?_
  refine lv_iload_n hx hb dX5_letsCarry_2 rfl (lv_at hl 2 rfl) ?_
  obtain ⟨q1, hq1, hf⟩ := nc_bi hf
  refine nc_callVi cx hw lk_X5_143 (c_X5_fits l h0 mi a1 a2 q1 hq1) (ci := 5) rfl (lTown_is h0) rfl hl.1 rfl (Nat.le_of_ble_eq_true rfl) ⟨rfl, rfl, Nat.le_of_ble_eq_true rfl, Nat.le_of_ble_eq_true rfl⟩ dX5_letsCarry_3 (fun H locs hw => ?_)
  refine lv_if_eq (tgt := 36) hx hb dX5_letsCarry_6 (by decide) (fun c2 => ?_) (fun c2 => ?_)
  · have hf := nc_ifp hf c2
    refine lv_iconst (v := 0) hx hb dX5_letsCarry_36 (by decide) ?_
    exact nc_rpp hret hf rfl hw dX5_letsCarry_37
  · have hf := nc_ifn hf c2
    refine lv_aload_n hx hb dX5_letsCarry_9 rfl (lv_at hl 0 rfl) ?_
    refine lv_aload_n hx hb dX5_letsCarry_10 rfl (lv_at hl 0 rfl) ?_
    refine gi_X5_58 cx hw (lTown_is h0) dX5_letsCarry_11 ?_
    refine lv_iload_n hx hb dX5_letsCarry_14 rfl (lv_at hl 1 rfl) ?_
    refine lv_iload_n hx hb dX5_letsCarry_15 rfl (lv_at hl 2 rfl) ?_
    refine lv_iload_n hx hb dX5_letsCarry_16 rfl (lv_at hl 3 rfl) ?_
    refine lv_aload_n hx hb dX5_letsCarry_17 rfl (lv_at hl 0 rfl) ?_
    refine gr_X5_19 cx hw (lTown_is h0) (lTown_goods h0) (lTown_goods_L h0) dX5_letsCarry_18 ?_
    refine lv_iload_n hx hb dX5_letsCarry_21 rfl (lv_at hl 2 rfl) ?_
    obtain ⟨j3, ej3, ij3, lj3, hf⟩ := nc_ix hf
    refine nc_ald cx hw (by decide) (lTown_goods_L h0) ij3 ej3 ((lTown_goods_E h0 j3 lj3)).1 (lThing_is ((lTown_goods_E h0 j3 lj3)).2) dX5_letsCarry_22 ?_
    refine gi_X5_136 cx hw (lThing_is ((lTown_goods_E h0 j3 lj3)).2) dX5_letsCarry_23 ?_
    obtain ⟨q4, hq4, hf⟩ := nc_bi hf
    refine nc_callVi cx hw lk_X5_147 (c_X5_lawLets l h0 mi (mi o 7) a1 a2 a3 (mi (o + 11 + j3) 9) q4 hq4) (ci := 5) rfl (lTown_is h0) rfl hl.1 rfl (Nat.le_of_ble_eq_true rfl) ⟨rfl, rfl, Nat.le_of_ble_eq_true rfl, Nat.le_of_ble_eq_true rfl⟩ dX5_letsCarry_26 (fun H locs hw => ?_)
    refine lv_if_eq (tgt := 36) hx hb dX5_letsCarry_29 (by decide) (fun c5 => ?_) (fun c5 => ?_)
    · have hf := nc_ifp hf c5
      refine lv_iconst (v := 0) hx hb dX5_letsCarry_36 (by decide) ?_
      exact nc_rpp hret hf rfl hw dX5_letsCarry_37
    · have hf := nc_ifn hf c5
      refine lv_iconst (v := 1) hx hb dX5_letsCarry_32 (by decide) ?_
      refine lv_goto (tgt := 37) hx hb dX5_letsCarry_33 (by decide) ?_
      exact nc_rpp hret hf rfl hw dX5_letsCarry_37
abbrev rm_X7_may : Room := { frames := 2, cells := 0, slots := 0, locals := 50 }
set_option maxRecDepth 100000 in
set_option maxHeartbeats 4000000 in
theorem c_X7_may (l : Launch) {G : nc_G} {K : nc_K} {o : Nat} (h0 : nc_LNC G K o) (mi : nc_Mem) (a1 a2 a3 : Int32) (res : nc_Mem × Int32) (hf : f_X7_may mi o a1 a2 a3 = some res) : nc_M l yX7_may cX7_may 4 (some .int) rm_X7_may 0 0 G K K [.ref o, .int a1, .int a2, .int a3] mi res.1 (some (.int res.2)) := by
  refine nc_meet_i (by decide) (Nat.le_of_ble_eq_true rfl) ?_
  intro p e s m args below meth c Q H locs ls cx hret hw hl
  have cx : nc_C p s m args c cX7_may 4 RX7 G := cx
  have hl : lv_has ls 4 [(0, .ref o), (1, .int a1), (2, .int a2), (3, .int a3)] := hl
  have hx := cx.1
  have hb := cx.2.1
  unfold f_X7_may at hf
  refine lv_aload_n hx hb dX7_may_0 rfl (lv_at hl 0 rfl) ?_
  refine gr_X7_10 cx hw (lNC_is h0) (lNC_now h0) (lTown_is (lNC_now_L h0)) dX7_may_1 ?_
  refine lv_iload_n hx hb dX7_may_4 rfl (lv_at hl 1 rfl) ?_
  refine nc_callVi cx hw lk_X7_86 (c_X5_isPerson l (lNC_now_L h0) mi a1 _ rfl) (ci := 5) rfl (lTown_is (lNC_now_L h0)) rfl hl.1 rfl (Nat.le_of_ble_eq_true rfl) ⟨rfl, rfl, Nat.le_of_ble_eq_true rfl, Nat.le_of_ble_eq_true rfl⟩ dX7_may_5 (fun H locs hw => ?_)
  obtain ⟨k1, ek1, hf⟩ := nc_jn_of hf
  have hk1 : k1 = some res → ∀ (H : Heap) (locs : List Loc) (ls : Array Slot), nc_W G K mi H locs → lv_has ls 4 [(0, .ref o)] → W p l e rm_X7_may s m args below meth c H locs 0 0 Q (F0 m 22 ls []) := by
    intro hf H locs ls hw hl
    have hf := (ek1).symm.trans hf
    refine lv_aload_n hx hb dX7_may_22 rfl (lv_at hl 0 rfl) ?_
    refine lv_iconst (v := (-1)) hx hb dX7_may_23 (by decide) ?_
    obtain ⟨q2, hq2, hf⟩ := nc_bi hf
    refine nc_callVi cx hw lk_X7_60 (c_X7_refuse l h0 mi (-1) q2 hq2) (ci := 7) rfl (lNC_is h0) rfl hl.1 rfl (Nat.le_of_ble_eq_true rfl) ⟨rfl, rfl, Nat.le_of_ble_eq_true rfl, Nat.le_of_ble_eq_true rfl⟩ dX7_may_24 (fun H locs hw => ?_)
    exact nc_rpm hret hf rfl hw dX7_may_27
  refine lv_if_eq (tgt := 22) hx hb dX7_may_8 (by decide) (fun c3 => ?_) (fun c3 => ?_)
  · have hf := nc_ifp hf c3
    exact hk1 hf _ _ _ hw (lv_sub hl [0] rfl)
  · have hf := nc_ifn hf c3
    refine lv_aload_n hx hb dX7_may_11 rfl (lv_at hl 0 rfl) ?_
    refine gr_X7_10 cx hw (lNC_is h0) (lNC_now h0) (lTown_is (lNC_now_L h0)) dX7_may_12 ?_
    refine lv_iload_n hx hb dX7_may_15 rfl (lv_at hl 2 rfl) ?_
    refine nc_callVi cx hw lk_X7_101 (c_X5_isThing l (lNC_now_L h0) mi a2 _ rfl) (ci := 5) rfl (lTown_is (lNC_now_L h0)) rfl hl.1 rfl (Nat.le_of_ble_eq_true rfl) ⟨rfl, rfl, Nat.le_of_ble_eq_true rfl, Nat.le_of_ble_eq_true rfl⟩ dX7_may_16 (fun H locs hw => ?_)
    refine lv_if_ne (tgt := 28) hx hb dX7_may_19 (by decide) (fun c4 => ?_) (fun c4 => ?_)
    · have hf := nc_ifn hf c4
      refine lv_iload_n hx hb dX7_may_28 rfl (lv_at hl 3 rfl) ?_
      refine lv_if_ge (tgt := 39) hx hb dX7_may_29 (by decide) (fun c5 => ?_) (fun c5 => ?_)
      · have hf := nc_ifp hf c5
        refine lv_iload_n hx hb dX7_may_39 rfl (lv_at hl 3 rfl) ?_
        refine lv_sipush (v := 9999) hx hb dX7_may_40 (by decide) ?_
        refine lv_icmp_le (tgt := 53) hx hb dX7_may_43 (by decide) (fun c6 => ?_) (fun c6 => ?_)
        · have hf := nc_ifp hf c6
          refine lv_aload_n hx hb dX7_may_53 rfl (lv_at hl 0 rfl) ?_
          refine gr_X7_10 cx hw (lNC_is h0) (lNC_now h0) (lTown_is (lNC_now_L h0)) dX7_may_54 ?_
          refine lv_iload_n hx hb dX7_may_57 rfl (lv_at hl 1 rfl) ?_
          refine lv_iload_n hx hb dX7_may_58 rfl (lv_at hl 2 rfl) ?_
          refine lv_iload_n hx hb dX7_may_59 rfl (lv_at hl 3 rfl) ?_
          obtain ⟨q7, hq7, hf⟩ := nc_bi hf
          refine nc_callVi cx hw lk_X7_114 (c_X5_letsCarry l (lNC_now_L h0) mi a1 a2 a3 q7 hq7) (ci := 5) rfl (lTown_is (lNC_now_L h0)) rfl hl.1 rfl (Nat.le_of_ble_eq_true rfl) ⟨rfl, rfl, Nat.le_of_ble_eq_true rfl, Nat.le_of_ble_eq_true rfl⟩ dX7_may_60 (fun H locs hw => ?_)
          refine lv_if_eq (tgt := 70) hx hb dX7_may_63 (by decide) (fun c8 => ?_) (fun c8 => ?_)
          · have hf := nc_ifp hf c8
            refine lv_iconst (v := 0) hx hb dX7_may_70 (by decide) ?_
            exact nc_rpm hret hf rfl hw dX7_may_71
          · have hf := nc_ifn hf c8
            refine lv_iconst (v := 1) hx hb dX7_may_66 (by decide) ?_
            refine lv_goto (tgt := 71) hx hb dX7_may_67 (by decide) ?_
            exact nc_rpm hret hf rfl hw dX7_may_71
        · have hf := nc_ifn hf c6
          refine lv_aload_n hx hb dX7_may_46 rfl (lv_at hl 0 rfl) ?_
          refine lv_bipush (v := (-6)) hx hb dX7_may_47 (by decide) ?_
          obtain ⟨q9, hq9, hf⟩ := nc_bi hf
          refine nc_callVi cx hw lk_X7_60 (c_X7_refuse l h0 mi (-6) q9 hq9) (ci := 7) rfl (lNC_is h0) rfl hl.1 rfl (Nat.le_of_ble_eq_true rfl) ⟨rfl, rfl, Nat.le_of_ble_eq_true rfl, Nat.le_of_ble_eq_true rfl⟩ dX7_may_49 (fun H locs hw => ?_)
          exact nc_rpm hret hf rfl hw dX7_may_52
      · have hf := nc_ifn hf c5
        refine lv_aload_n hx hb dX7_may_32 rfl (lv_at hl 0 rfl) ?_
        refine lv_bipush (v := (-4)) hx hb dX7_may_33 (by decide) ?_
        obtain ⟨q10, hq10, hf⟩ := nc_bi hf
        refine nc_callVi cx hw lk_X7_60 (c_X7_refuse l h0 mi (-4) q10 hq10) (ci := 7) rfl (lNC_is h0) rfl hl.1 rfl (Nat.le_of_ble_eq_true rfl) ⟨rfl, rfl, Nat.le_of_ble_eq_true rfl, Nat.le_of_ble_eq_true rfl⟩ dX7_may_35 (fun H locs hw => ?_)
        exact nc_rpm hret hf rfl hw dX7_may_38
    · have hf := nc_ifp hf c4
      exact hk1 hf _ _ _ hw (lv_sub hl [0] rfl)
abbrev rm_X5_hasSpareRoom : Room := { frames := 0, cells := 0, slots := 0, locals := 0 }
set_option maxRecDepth 100000 in
set_option maxHeartbeats 4000000 in
theorem c_X5_hasSpareRoom (l : Launch) {G : nc_G} {K : nc_K} {o : Nat} (h0 : nc_LTown G K o) (mi : nc_Mem) (a1 a2 : Int32) (res : Int32) (hf : f_X5_hasSpareRoom mi o a1 a2 = some res) : nc_M l yX5_hasSpareRoom cX5_hasSpareRoom 5 (some .boolean) rm_X5_hasSpareRoom 0 0 G K K [.ref o, .int a1, .int a2] mi mi (some (.int res)) := by
  refine nc_meet_i (by decide) (Nat.le_of_ble_eq_true rfl) ?_
  intro p e s m args below meth c Q H locs ls cx hret hw hl
  have cx : nc_C p s m args c cX5_hasSpareRoom 5 RX5 G := cx
  have hl : lv_has ls 5 [(0, .ref o), (1, .int a1), (2, .int a2)] := hl
  have hx := cx.1
  have hb := cx.2.1
  unfold f_X5_hasSpareRoom at hf
  refine lv_aload_n hx hb dX5_hasSpareRoom_0 rfl (lv_at hl 0 rfl) ?_
  refine gr_X5_19 cx hw (lTown_is h0) (lTown_goods h0) (lTown_goods_L h0) dX5_hasSpareRoom_1 ?_
  refine lv_iload_n hx hb dX5_hasSpareRoom_4 rfl (lv_at hl 2 rfl) ?_
  obtain ⟨j1, ej1, ij1, lj1, hf⟩ := nc_ix hf
  refine nc_ald cx hw (by decide) (lTown_goods_L h0) ij1 ej1 ((lTown_goods_E h0 j1 lj1)).1 (lThing_is ((lTown_goods_E h0 j1 lj1)).2) dX5_hasSpareRoom_5 ?_
  refine gi_X5_124 cx hw (lThing_is ((lTown_goods_E h0 j1 lj1)).2) dX5_hasSpareRoom_6 ?_
  refine lv_topi (fun x2 ex2 => ?_)
  have hf := nc_let_at hf ex2
  refine lv_istore_n (lv' := [(3, .int x2), (0, .ref o), (1, .int a1), (2, .int a2)]) hx hb dX5_hasSpareRoom_9 rfl hl (by decide) rfl (fun ls hl => ?_)
  refine lv_iconst (v := 0) hx hb dX5_hasSpareRoom_10 (by decide) ?_
  refine lv_istore (lv' := [(4, .int 0), (3, .int x2), (0, .ref o), (1, .int a1), (2, .int a2)]) hx hb dX5_hasSpareRoom_11 hl (by decide) rfl (fun ls hl => ?_)
  obtain ⟨k3, ek3, hf⟩ := nc_jn_of hf
  have hk3 : ∀ (x4 : Int32), k3 x4 = some res → ∀ (H : Heap) (locs : List Loc) (ls : Array Slot), nc_W G K mi H locs → lv_has ls 5 [(0, .ref o), (1, .int a1), (3, .int x4)] → W p l e rm_X5_hasSpareRoom s m args below meth c H locs 0 0 Q (F0 m 58 ls []) := by
    intro x4 hf H locs ls hw hl
    have hf := ((congrFun ek3 x4)).symm.trans hf
    refine lv_iload_n hx hb dX5_hasSpareRoom_58 rfl (lv_at hl 2 rfl) ?_
    refine lv_aload_n hx hb dX5_hasSpareRoom_59 rfl (lv_at hl 0 rfl) ?_
    refine gr_X5_11 cx hw (lTown_is h0) (lTown_people h0) (lTown_people_L h0) dX5_hasSpareRoom_60 ?_
    refine lv_iload_n hx hb dX5_hasSpareRoom_63 rfl (lv_at hl 1 rfl) ?_
    obtain ⟨j5, ej5, ij5, lj5, hf⟩ := nc_ix hf
    refine nc_ald cx hw (by decide) (lTown_people_L h0) ij5 ej5 ((lTown_people_E h0 j5 lj5)).1 (lPerson_is ((lTown_people_E h0 j5 lj5)).2) dX5_hasSpareRoom_64 ?_
    refine gi_X5_109 cx hw (lPerson_is ((lTown_people_E h0 j5 lj5)).2) dX5_hasSpareRoom_65 ?_
    refine lv_icmp_gt (tgt := 75) hx hb dX5_hasSpareRoom_68 (by decide) (fun c6 => ?_) (fun c6 => ?_)
    · have hf := nc_ifp hf c6
      refine lv_iconst (v := 0) hx hb dX5_hasSpareRoom_75 (by decide) ?_
      exact nc_rpp hret hf rfl hw dX5_hasSpareRoom_76
    · have hf := nc_ifn hf c6
      refine lv_iconst (v := 1) hx hb dX5_hasSpareRoom_71 (by decide) ?_
      refine lv_goto (tgt := 76) hx hb dX5_hasSpareRoom_72 (by decide) ?_
      exact nc_rpp hret hf rfl hw dX5_hasSpareRoom_76
  refine nc_loop_w (P := fun κ : Int32 → Int32 → Option (Int32) => ∀ (x7 : Int32) (x8 : Int32), κ x7 x8 = some res → ∀ (H : Heap) (locs : List Loc) (ls : Array Slot), nc_W G K mi H locs → lv_has ls 5 [(0, .ref o), (1, .int a1), (3, .int x7), (4, .int x8)] → W p l e rm_X5_hasSpareRoom s m args below meth c H locs 0 0 Q (F0 m 13 ls [])) ?_ ?_ 200 _ _ hf _ _ _ hw (lv_sub hl [2, 3, 1, 0] rfl)
  · intro x7 x8 hf; exact absurd hf (by intro q; cases q)
  · intro rc9 ihrc9 x7 x8 hf H locs ls hw hl
    unfold B_X5_hasSpareRoom_13 at hf
    refine lv_iload hx hb dX5_hasSpareRoom_13 (lv_at hl 3 rfl) ?_
    refine lv_aload_n hx hb dX5_hasSpareRoom_15 rfl (lv_at hl 0 rfl) ?_
    refine gi_X5_55 cx hw (lTown_is h0) dX5_hasSpareRoom_16 ?_
    refine lv_icmp_ge (tgt := 58) hx hb dX5_hasSpareRoom_19 (by decide) (fun c10 => ?_) (fun c10 => ?_)
    · have hf := nc_ifp hf c10
      exact hk3 _ hf _ _ _ hw (lv_sub hl [0, 1, 2] rfl)
    · have hf := nc_ifn hf c10
      refine lv_aload_n hx hb dX5_hasSpareRoom_22 rfl (lv_at hl 0 rfl) ?_
      refine gr_X5_19 cx hw (lTown_is h0) (lTown_goods h0) (lTown_goods_L h0) dX5_hasSpareRoom_23 ?_
      refine lv_iload hx hb dX5_hasSpareRoom_26 (lv_at hl 3 rfl) ?_
      obtain ⟨j11, ej11, ij11, lj11, hf⟩ := nc_ix hf
      refine nc_ald cx hw (by decide) (lTown_goods_L h0) ij11 ej11 ((lTown_goods_E h0 j11 lj11)).1 (lThing_is ((lTown_goods_E h0 j11 lj11)).2) dX5_hasSpareRoom_28 ?_
      refine gi_X5_97 cx hw (lThing_is ((lTown_goods_E h0 j11 lj11)).2) dX5_hasSpareRoom_29 ?_
      refine lv_bipush (v := 10) hx hb dX5_hasSpareRoom_32 (by decide) ?_
      refine lv_iload_n hx hb dX5_hasSpareRoom_34 rfl (lv_at hl 1 rfl) ?_
      refine lv_iadd hx hb dX5_hasSpareRoom_35 ?_
      refine lv_icmp_ne (tgt := 52) hx hb dX5_hasSpareRoom_36 (by decide) (fun c12 => ?_) (fun c12 => ?_)
      · have hf := nc_ifn hf c12
        obtain ⟨x13, ex13⟩ : ∃ y : Int32, y = x8 + 1 := ⟨_, rfl⟩
        have hf := nc_let_at hf ex13
        refine lv_iinc (v := x13) (lv' := [(4, .int x13), (0, .ref o), (1, .int a1), (3, .int x7)]) hx hb dX5_hasSpareRoom_52 hl (k := 3) rfl (by rw [ex13]; rfl) (by decide) rfl (fun ls hl => ?_)
        refine lv_goto (tgt := 13) hx hb dX5_hasSpareRoom_55 (by decide) ?_
        exact ihrc9 _ _ hf _ _ _ hw (lv_sub hl [1, 2, 3, 0] rfl)
      · have hf := nc_ifp hf c12
        refine lv_iload_n hx hb dX5_hasSpareRoom_39 rfl (lv_at hl 2 rfl) ?_
        refine lv_aload_n hx hb dX5_hasSpareRoom_40 rfl (lv_at hl 0 rfl) ?_
        refine gr_X5_19 cx hw (lTown_is h0) (lTown_goods h0) (lTown_goods_L h0) dX5_hasSpareRoom_41 ?_
        refine lv_iload hx hb dX5_hasSpareRoom_44 (lv_at hl 3 rfl) ?_
        refine nc_ald cx hw (by decide) (lTown_goods_L h0) ij11 ej11 ((lTown_goods_E h0 j11 lj11)).1 (lThing_is ((lTown_goods_E h0 j11 lj11)).2) dX5_hasSpareRoom_46 ?_
        refine gi_X5_124 cx hw (lThing_is ((lTown_goods_E h0 j11 lj11)).2) dX5_hasSpareRoom_47 ?_
        refine lv_iadd hx hb dX5_hasSpareRoom_50 ?_
        refine lv_topi (fun x14 ex14 => ?_)
        have hf := nc_let_at hf ex14
        refine lv_istore_n (lv' := [(3, .int x14), (0, .ref o), (1, .int a1), (4, .int x8)]) hx hb dX5_hasSpareRoom_51 rfl hl (by decide) rfl (fun ls hl => ?_)
        obtain ⟨x15, ex15⟩ : ∃ y : Int32, y = x8 + 1 := ⟨_, rfl⟩
        have hf := nc_let_at hf ex15
        refine lv_iinc (v := x15) (lv' := [(4, .int x15), (3, .int x14), (0, .ref o), (1, .int a1)]) hx hb dX5_hasSpareRoom_52 hl (k := 3) rfl (by rw [ex15]; rfl) (by decide) rfl (fun ls hl => ?_)
        refine lv_goto (tgt := 13) hx hb dX5_hasSpareRoom_55 (by decide) ?_
        exact ihrc9 _ _ hf _ _ _ hw (lv_sub hl [2, 3, 1, 0] rfl)
abbrev rm_X5_load : Room := { frames := 0, cells := 0, slots := 0, locals := 0 }
set_option maxRecDepth 100000 in
set_option maxHeartbeats 4000000 in
theorem c_X5_load (l : Launch) {G : nc_G} {K : nc_K} {o : Nat} (h0 : nc_LTown G K o) (mi : nc_Mem) (a1 a2 : Int32) (res : nc_Mem) (hf : f_X5_load mi o a1 a2 = some res) : nc_M l yX5_load cX5_load 3 none rm_X5_load 0 0 G K K [.ref o, .int a1, .int a2] mi res none := by
  refine nc_meet_v (by decide) (Nat.le_of_ble_eq_true rfl) ?_
  intro p e s m args below meth c Q H locs ls cx hret hw hl
  have cx : nc_C p s m args c cX5_load 3 RX5 G := cx
  have hl : lv_has ls 3 [(0, .ref o), (1, .int a1), (2, .int a2)] := hl
  have hx := cx.1
  have hb := cx.2.1
  unfold f_X5_load at hf
  refine lv_aload_n hx hb dX5_load_0 rfl (lv_at hl 0 rfl) ?_
  refine gr_X5_19 cx hw (lTown_is h0) (lTown_goods h0) (lTown_goods_L h0) dX5_load_1 ?_
  refine lv_iload_n hx hb dX5_load_4 rfl (lv_at hl 2 rfl) ?_
  obtain ⟨j1, ej1, ij1, lj1, hf⟩ := nc_ix hf
  refine nc_ald cx hw (by decide) (lTown_goods_L h0) ij1 ej1 ((lTown_goods_E h0 j1 lj1)).1 (lThing_is ((lTown_goods_E h0 j1 lj1)).2) dX5_load_5 ?_
  refine lv_bipush (v := 10) hx hb dX5_load_6 (by decide) ?_
  refine lv_iload_n hx hb dX5_load_8 rfl (lv_at hl 1 rfl) ?_
  refine lv_iadd hx hb dX5_load_9 ?_
  refine pi_X5_97 cx hw (lThing_is ((lTown_goods_E h0 j1 lj1)).2) dX5_load_10 (fun mi2 H locs emi2 hw => ?_)
  have hf := nc_let_at hf emi2
  refine lv_aload_n hx hb dX5_load_13 rfl (lv_at hl 0 rfl) ?_
  refine gr_X5_19 cx hw (lTown_is h0) (lTown_goods h0) (lTown_goods_L h0) dX5_load_14 ?_
  refine lv_iload_n hx hb dX5_load_17 rfl (lv_at hl 2 rfl) ?_
  refine nc_ald cx hw (by decide) (lTown_goods_L h0) ij1 ej1 ((lTown_goods_E h0 j1 lj1)).1 (lThing_is ((lTown_goods_E h0 j1 lj1)).2) dX5_load_18 ?_
  refine lv_iconst (v := 0) hx hb dX5_load_19 (by decide) ?_
  refine pi_X5_133 cx hw (lThing_is ((lTown_goods_E h0 j1 lj1)).2) dX5_load_20 (fun mi3 H locs emi3 hw => ?_)
  have hf := nc_let_at hf emi3
  exact nc_vpm hret hf hw dX5_load_23
abbrev rm_X5_takeUp : Room := { frames := 2, cells := 0, slots := 0, locals := 50 }
set_option maxRecDepth 100000 in
set_option maxHeartbeats 4000000 in
theorem c_X5_takeUp (l : Launch) {G : nc_G} {K : nc_K} {o : Nat} (h0 : nc_LTown G K o) (mi : nc_Mem) (a1 a2 : Int32) (res : nc_Mem × Int32) (hf : f_X5_takeUp mi o a1 a2 = some res) : nc_M l yX5_takeUp cX5_takeUp 6 (some .boolean) rm_X5_takeUp 0 0 G K K [.ref o, .int a1, .int a2] mi res.1 (some (.int res.2)) := by
  refine nc_meet_i (by decide) (Nat.le_of_ble_eq_true rfl) ?_
  intro p e s m args below meth c Q H locs ls cx hret hw hl
  have cx : nc_C p s m args c cX5_takeUp 6 RX5 G := cx
  have hl : lv_has ls 6 [(0, .ref o), (1, .int a1), (2, .int a2)] := hl
  have hx := cx.1
  have hb := cx.2.1
  unfold f_X5_takeUp at hf
  refine lv_aload_n hx hb dX5_takeUp_0 rfl (lv_at hl 0 rfl) ?_
  refine gr_X5_11 cx hw (lTown_is h0) (lTown_people h0) (lTown_people_L h0) dX5_takeUp_1 ?_
  refine lv_iload_n hx hb dX5_takeUp_4 rfl (lv_at hl 1 rfl) ?_
  obtain ⟨j1, ej1, ij1, lj1, hf⟩ := nc_ix hf
  refine nc_ald cx hw (by decide) (lTown_people_L h0) ij1 ej1 ((lTown_people_E h0 j1 lj1)).1 (lPerson_is ((lTown_people_E h0 j1 lj1)).2) dX5_takeUp_5 ?_
  refine lv_astore_n (lv' := [(3, .ref (o + 5 + j1)), (0, .ref o), (1, .int a1), (2, .int a2)]) hx hb dX5_takeUp_6 rfl hl (by decide) rfl (fun ls hl => ?_)
  refine lv_aload_n hx hb dX5_takeUp_7 rfl (lv_at hl 1 rfl) ?_
  refine gr_X5_19 cx hw (lTown_is h0) (lTown_goods h0) (lTown_goods_L h0) dX5_takeUp_8 ?_
  refine lv_iload_n hx hb dX5_takeUp_11 rfl (lv_at hl 3 rfl) ?_
  obtain ⟨j2, ej2, ij2, lj2, hf⟩ := nc_ix hf
  refine nc_ald cx hw (by decide) (lTown_goods_L h0) ij2 ej2 ((lTown_goods_E h0 j2 lj2)).1 (lThing_is ((lTown_goods_E h0 j2 lj2)).2) dX5_takeUp_12 ?_
  refine lv_astore (lv' := [(4, .ref (o + 11 + j2)), (3, .ref (o + 5 + j1)), (0, .ref o), (1, .int a1), (2, .int a2)]) hx hb dX5_takeUp_13 hl (by decide) rfl (fun ls hl => ?_)
  refine lv_aload_n hx hb dX5_takeUp_15 rfl (lv_at hl 1 rfl) ?_
  refine gi_X5_112 cx hw (lPerson_is ((lTown_people_E h0 j1 lj1)).2) dX5_takeUp_16 ?_
  refine lv_aload hx hb dX5_takeUp_19 (lv_at hl 0 rfl) ?_
  refine gi_X5_133 cx hw (lThing_is ((lTown_goods_E h0 j2 lj2)).2) dX5_takeUp_21 ?_
  refine nc_mx cx hl.1 (nc_w 494 (by decide +kernel) rfl) ⟨Nat.le_of_ble_eq_true rfl, Nat.le_of_ble_eq_true rfl⟩ dX5_takeUp_24 ?_
  refine lv_topi (fun x3 ex3 => ?_)
  have hf := nc_let_at hf ex3
  refine lv_istore (lv' := [(5, .int x3), (4, .ref (o + 11 + j2)), (3, .ref (o + 5 + j1)), (0, .ref o), (1, .int a1), (2, .int a2)]) hx hb dX5_takeUp_27 hl (by decide) rfl (fun ls hl => ?_)
  refine lv_aload hx hb dX5_takeUp_29 (lv_at hl 1 rfl) ?_
  refine gi_X5_97 cx hw (lThing_is ((lTown_goods_E h0 j2 lj2)).2) dX5_takeUp_31 ?_
  refine lv_aload_n hx hb dX5_takeUp_34 rfl (lv_at hl 2 rfl) ?_
  refine gi_X5_86 cx hw (lPerson_is ((lTown_people_E h0 j1 lj1)).2) dX5_takeUp_35 ?_
  refine lv_icmp_ne (tgt := 61) hx hb dX5_takeUp_38 (by decide) (fun c4 => ?_) (fun c4 => ?_)
  · have hf := nc_ifn hf c4
    refine lv_iconst (v := 0) hx hb dX5_takeUp_61 (by decide) ?_
    exact nc_rpm hret hf rfl hw dX5_takeUp_62
  · have hf := nc_ifp hf c4
    refine lv_aload_n hx hb dX5_takeUp_41 rfl (lv_at hl 3 rfl) ?_
    refine lv_iload_n hx hb dX5_takeUp_42 rfl (lv_at hl 4 rfl) ?_
    refine lv_iload_n hx hb dX5_takeUp_43 rfl (lv_at hl 5 rfl) ?_
    refine lv_iload hx hb dX5_takeUp_44 (lv_at hl 0 rfl) ?_
    obtain ⟨q5, hq5, hf⟩ := nc_bi hf
    refine nc_callVi cx hw lk_X5_151 (c_X5_letsCarry l h0 mi a1 a2 x3 q5 hq5) (ci := 5) rfl (lTown_is h0) rfl hl.1 rfl (Nat.le_of_ble_eq_true rfl) ⟨rfl, rfl, Nat.le_of_ble_eq_true rfl, Nat.le_of_ble_eq_true rfl⟩ dX5_takeUp_46 (fun H locs hw => ?_)
    refine lv_if_eq (tgt := 61) hx hb dX5_takeUp_49 (by decide) (fun c6 => ?_) (fun c6 => ?_)
    · have hf := nc_ifp hf c6
      refine lv_iconst (v := 0) hx hb dX5_takeUp_61 (by decide) ?_
      exact nc_rpm hret hf rfl hw dX5_takeUp_62
    · have hf := nc_ifn hf c6
      refine lv_aload_n hx hb dX5_takeUp_52 rfl (lv_at hl 3 rfl) ?_
      refine lv_iload_n hx hb dX5_takeUp_53 rfl (lv_at hl 4 rfl) ?_
      refine lv_iload_n hx hb dX5_takeUp_54 rfl (lv_at hl 5 rfl) ?_
      obtain ⟨q7, hq7, hf⟩ := nc_bi hf
      refine nc_callVi cx hw lk_X5_154 (c_X5_hasSpareRoom l h0 mi a1 a2 q7 hq7) (ci := 5) rfl (lTown_is h0) rfl hl.1 rfl (Nat.le_of_ble_eq_true rfl) ⟨rfl, rfl, Nat.le_of_ble_eq_true rfl, Nat.le_of_ble_eq_true rfl⟩ dX5_takeUp_55 (fun H locs hw => ?_)
      refine lv_if_ne (tgt := 63) hx hb dX5_takeUp_58 (by decide) (fun c8 => ?_) (fun c8 => ?_)
      · have hf := nc_ifn hf c8
        refine lv_aload_n hx hb dX5_takeUp_63 rfl (lv_at hl 2 rfl) ?_
        refine lv_iload hx hb dX5_takeUp_64 (lv_at hl 0 rfl) ?_
        refine pi_X5_112 cx hw (lPerson_is ((lTown_people_E h0 j1 lj1)).2) dX5_takeUp_66 (fun mi9 H locs emi9 hw => ?_)
        have hf := nc_let_at hf emi9
        refine lv_aload_n hx hb dX5_takeUp_69 rfl (lv_at hl 3 rfl) ?_
        refine lv_iload_n hx hb dX5_takeUp_70 rfl (lv_at hl 4 rfl) ?_
        refine lv_iload_n hx hb dX5_takeUp_71 rfl (lv_at hl 5 rfl) ?_
        obtain ⟨q10, hq10, hf⟩ := nc_bi hf
        refine nc_callVv cx hw lk_X5_157 (c_X5_load l h0 mi9 a1 a2 q10 hq10) (ci := 5) rfl (lTown_is h0) rfl hl.1 rfl (Nat.le_of_ble_eq_true rfl) ⟨rfl, rfl, Nat.le_of_ble_eq_true rfl, Nat.le_of_ble_eq_true rfl⟩ dX5_takeUp_72 (fun H locs hw => ?_)
        refine lv_iconst (v := 1) hx hb dX5_takeUp_75 (by decide) ?_
        exact nc_rpm hret hf rfl hw dX5_takeUp_76
      · have hf := nc_ifp hf c8
        refine lv_iconst (v := 0) hx hb dX5_takeUp_61 (by decide) ?_
        exact nc_rpm hret hf rfl hw dX5_takeUp_62
abbrev rm_X7_take : Room := { frames := 3, cells := 0, slots := 0, locals := 75 }
set_option maxRecDepth 100000 in
set_option maxHeartbeats 4000000 in
theorem c_X7_take (l : Launch) {G : nc_G} {K : nc_K} {o : Nat} (h0 : nc_LNC G K o) (mi : nc_Mem) (a1 a2 : Int32) (res : nc_Mem × Int32) (hf : f_X7_take mi o a1 a2 = some res) : nc_M l yX7_take cX7_take 3 (some .int) rm_X7_take 0 0 G K K [.ref o, .int a1, .int a2] mi res.1 (some (.int res.2)) := by
  refine nc_meet_i (by decide) (Nat.le_of_ble_eq_true rfl) ?_
  intro p e s m args below meth c Q H locs ls cx hret hw hl
  have cx : nc_C p s m args c cX7_take 3 RX7 G := cx
  have hl : lv_has ls 3 [(0, .ref o), (1, .int a1), (2, .int a2)] := hl
  have hx := cx.1
  have hb := cx.2.1
  unfold f_X7_take at hf
  refine lv_aload_n hx hb dX7_take_0 rfl (lv_at hl 0 rfl) ?_
  refine gr_X7_10 cx hw (lNC_is h0) (lNC_now h0) (lTown_is (lNC_now_L h0)) dX7_take_1 ?_
  refine lv_iload_n hx hb dX7_take_4 rfl (lv_at hl 1 rfl) ?_
  refine nc_callVi cx hw lk_X7_86 (c_X5_isPerson l (lNC_now_L h0) mi a1 _ rfl) (ci := 5) rfl (lTown_is (lNC_now_L h0)) rfl hl.1 rfl (Nat.le_of_ble_eq_true rfl) ⟨rfl, rfl, Nat.le_of_ble_eq_true rfl, Nat.le_of_ble_eq_true rfl⟩ dX7_take_5 (fun H locs hw => ?_)
  obtain ⟨k1, ek1, hf⟩ := nc_jn_of hf
  have hk1 : k1 = some res → ∀ (H : Heap) (locs : List Loc) (ls : Array Slot), nc_W G K mi H locs → lv_has ls 3 [(0, .ref o)] → W p l e rm_X7_take s m args below meth c H locs 0 0 Q (F0 m 22 ls []) := by
    intro hf H locs ls hw hl
    have hf := (ek1).symm.trans hf
    refine lv_aload_n hx hb dX7_take_22 rfl (lv_at hl 0 rfl) ?_
    refine lv_iconst (v := (-1)) hx hb dX7_take_23 (by decide) ?_
    obtain ⟨q2, hq2, hf⟩ := nc_bi hf
    refine nc_callVi cx hw lk_X7_60 (c_X7_refuse l h0 mi (-1) q2 hq2) (ci := 7) rfl (lNC_is h0) rfl hl.1 rfl (Nat.le_of_ble_eq_true rfl) ⟨rfl, rfl, Nat.le_of_ble_eq_true rfl, Nat.le_of_ble_eq_true rfl⟩ dX7_take_24 (fun H locs hw => ?_)
    exact nc_rpm hret hf rfl hw dX7_take_27
  refine lv_if_eq (tgt := 22) hx hb dX7_take_8 (by decide) (fun c3 => ?_) (fun c3 => ?_)
  · have hf := nc_ifp hf c3
    exact hk1 hf _ _ _ hw (lv_sub hl [0] rfl)
  · have hf := nc_ifn hf c3
    refine lv_aload_n hx hb dX7_take_11 rfl (lv_at hl 0 rfl) ?_
    refine gr_X7_10 cx hw (lNC_is h0) (lNC_now h0) (lTown_is (lNC_now_L h0)) dX7_take_12 ?_
    refine lv_iload_n hx hb dX7_take_15 rfl (lv_at hl 2 rfl) ?_
    refine nc_callVi cx hw lk_X7_101 (c_X5_isThing l (lNC_now_L h0) mi a2 _ rfl) (ci := 5) rfl (lTown_is (lNC_now_L h0)) rfl hl.1 rfl (Nat.le_of_ble_eq_true rfl) ⟨rfl, rfl, Nat.le_of_ble_eq_true rfl, Nat.le_of_ble_eq_true rfl⟩ dX7_take_16 (fun H locs hw => ?_)
    refine lv_if_ne (tgt := 28) hx hb dX7_take_19 (by decide) (fun c4 => ?_) (fun c4 => ?_)
    · have hf := nc_ifn hf c4
      refine lv_aload_n hx hb dX7_take_28 rfl (lv_at hl 0 rfl) ?_
      refine gr_X7_10 cx hw (lNC_is h0) (lNC_now h0) (lTown_is (lNC_now_L h0)) dX7_take_29 ?_
      refine lv_iload_n hx hb dX7_take_32 rfl (lv_at hl 1 rfl) ?_
      refine lv_iload_n hx hb dX7_take_33 rfl (lv_at hl 2 rfl) ?_
      obtain ⟨q5, hq5, hf⟩ := nc_bi hf
      refine nc_callVi cx hw lk_X7_118 (c_X5_takeUp l (lNC_now_L h0) mi a1 a2 q5 hq5) (ci := 5) rfl (lTown_is (lNC_now_L h0)) rfl hl.1 rfl (Nat.le_of_ble_eq_true rfl) ⟨rfl, rfl, Nat.le_of_ble_eq_true rfl, Nat.le_of_ble_eq_true rfl⟩ dX7_take_34 (fun H locs hw => ?_)
      refine lv_if_eq (tgt := 55) hx hb dX7_take_37 (by decide) (fun c6 => ?_) (fun c6 => ?_)
      · have hf := nc_ifp hf c6
        refine lv_aload_n hx hb dX7_take_55 rfl (lv_at hl 0 rfl) ?_
        refine lv_bipush (v := (-3)) hx hb dX7_take_56 (by decide) ?_
        obtain ⟨q7, hq7, hf⟩ := nc_bi hf
        refine nc_callVi cx hw lk_X7_60 (c_X7_refuse l h0 q5.1 (-3) q7 hq7) (ci := 7) rfl (lNC_is h0) rfl hl.1 rfl (Nat.le_of_ble_eq_true rfl) ⟨rfl, rfl, Nat.le_of_ble_eq_true rfl, Nat.le_of_ble_eq_true rfl⟩ dX7_take_58 (fun H locs hw => ?_)
        exact nc_rpm hret hf rfl hw dX7_take_61
      · have hf := nc_ifn hf c6
        refine lv_aload_n hx hb dX7_take_40 rfl (lv_at hl 0 rfl) ?_
        refine gr_X7_10 cx hw (lNC_is h0) (lNC_now h0) (lTown_is (lNC_now_L h0)) dX7_take_41 ?_
        refine gr_X7_92 cx hw (lTown_is (lNC_now_L h0)) (lTown_people (lNC_now_L h0)) (lTown_people_L (lNC_now_L h0)) dX7_take_44 ?_
        refine lv_iload_n hx hb dX7_take_47 rfl (lv_at hl 1 rfl) ?_
        obtain ⟨j8, ej8, ij8, lj8, hf⟩ := nc_ix hf
        refine nc_ald cx hw (by decide) (lTown_people_L (lNC_now_L h0)) ij8 ej8 ((lTown_people_E (lNC_now_L h0) j8 lj8)).1 (lPerson_is ((lTown_people_E (lNC_now_L h0) j8 lj8)).2) dX7_take_48 ?_
        refine gi_X7_122 cx hw (lPerson_is ((lTown_people_E (lNC_now_L h0) j8 lj8)).2) dX7_take_49 ?_
        refine lv_goto (tgt := 61) hx hb dX7_take_52 (by decide) ?_
        exact nc_rpm hret hf rfl hw dX7_take_61
    · have hf := nc_ifp hf c4
      exact hk1 hf _ _ _ hw (lv_sub hl [0] rfl)
abbrev rm_X5_walkTo : Room := { frames := 2, cells := 0, slots := 0, locals := 50 }
set_option maxRecDepth 100000 in
set_option maxHeartbeats 4000000 in
theorem c_X5_walkTo (l : Launch) {G : nc_G} {K : nc_K} {o : Nat} (h0 : nc_LTown G K o) (mi : nc_Mem) (a1 a2 : Int32) (res : nc_Mem × Int32) (hf : f_X5_walkTo mi o a1 a2 = some res) : nc_M l yX5_walkTo cX5_walkTo 6 (some .boolean) rm_X5_walkTo 0 0 G K K [.ref o, .int a1, .int a2] mi res.1 (some (.int res.2)) := by
  refine nc_meet_i (by decide) (Nat.le_of_ble_eq_true rfl) ?_
  intro p e s m args below meth c Q H locs ls cx hret hw hl
  have cx : nc_C p s m args c cX5_walkTo 6 RX5 G := cx
  have hl : lv_has ls 6 [(0, .ref o), (1, .int a1), (2, .int a2)] := hl
  have hx := cx.1
  have hb := cx.2.1
  unfold f_X5_walkTo at hf
  refine lv_aload_n hx hb dX5_walkTo_0 rfl (lv_at hl 0 rfl) ?_
  refine gr_X5_11 cx hw (lTown_is h0) (lTown_people h0) (lTown_people_L h0) dX5_walkTo_1 ?_
  refine lv_iload_n hx hb dX5_walkTo_4 rfl (lv_at hl 1 rfl) ?_
  obtain ⟨j1, ej1, ij1, lj1, hf⟩ := nc_ix hf
  refine nc_ald cx hw (by decide) (lTown_people_L h0) ij1 ej1 ((lTown_people_E h0 j1 lj1)).1 (lPerson_is ((lTown_people_E h0 j1 lj1)).2) dX5_walkTo_5 ?_
  refine lv_astore_n (lv' := [(3, .ref (o + 5 + j1)), (0, .ref o), (1, .int a1), (2, .int a2)]) hx hb dX5_walkTo_6 rfl hl (by decide) rfl (fun ls hl => ?_)
  refine lv_aload_n hx hb dX5_walkTo_7 rfl (lv_at hl 1 rfl) ?_
  refine lv_aload_n hx hb dX5_walkTo_8 rfl (lv_at hl 0 rfl) ?_
  refine gi_X5_86 cx hw (lPerson_is ((lTown_people_E h0 j1 lj1)).2) dX5_walkTo_9 ?_
  refine lv_iload_n hx hb dX5_walkTo_12 rfl (lv_at hl 3 rfl) ?_
  obtain ⟨q2, hq2, hf⟩ := nc_bi hf
  refine nc_callVi cx hw lk_X5_161 (c_X5_leastBetween l h0 mi (mi (o + 5 + j1) 5) a2 q2 hq2) (ci := 5) rfl (lTown_is h0) rfl hl.1 rfl (Nat.le_of_ble_eq_true rfl) ⟨rfl, rfl, Nat.le_of_ble_eq_true rfl, Nat.le_of_ble_eq_true rfl⟩ dX5_walkTo_13 (fun H locs hw => ?_)
  refine lv_istore (lv' := [(4, .int q2), (3, .ref (o + 5 + j1)), (0, .ref o), (1, .int a1), (2, .int a2)]) hx hb dX5_walkTo_16 hl (by decide) rfl (fun ls hl => ?_)
  refine lv_iload hx hb dX5_walkTo_18 (lv_at hl 0 rfl) ?_
  refine nc_ldc (v := 1000000) cx kc_X5_139 dX5_walkTo_20 ?_
  refine lv_icmp_lt (tgt := 27) hx hb dX5_walkTo_22 (by decide) (fun c3 => ?_) (fun c3 => ?_)
  · have hf := nc_ifp hf c3
    refine lv_iconst (v := 0) hx hb dX5_walkTo_27 (by decide) ?_
    refine lv_istore (lv' := [(5, .int 0), (4, .int q2), (3, .ref (o + 5 + j1)), (0, .ref o), (1, .int a1), (2, .int a2)]) hx hb dX5_walkTo_28 hl (by decide) rfl (fun ls hl => ?_)
    obtain ⟨k4, ek4, hf⟩ := nc_jn_of hf
    have hk4 : k4 = some res → ∀ (H : Heap) (locs : List Loc) (ls : Array Slot), nc_W G K mi H locs → lv_has ls 6 [(2, .int a2), (3, .ref (o + 5 + j1)), (4, .int q2)] → W p l e rm_X5_walkTo s m args below meth c H locs 0 0 Q (F0 m 78 ls []) := by
      intro hf H locs ls hw hl
      have hf := (ek4).symm.trans hf
      refine lv_aload_n hx hb dX5_walkTo_78 rfl (lv_at hl 1 rfl) ?_
      refine lv_iload_n hx hb dX5_walkTo_79 rfl (lv_at hl 0 rfl) ?_
      refine pi_X5_86 cx hw (lPerson_is ((lTown_people_E h0 j1 lj1)).2) dX5_walkTo_80 (fun mi5 H locs emi5 hw => ?_)
      have hf := nc_let_at hf emi5
      refine lv_aload_n hx hb dX5_walkTo_83 rfl (lv_at hl 1 rfl) ?_
      refine lv_dup hx hb dX5_walkTo_84 rfl ?_
      refine gi_X5_112 cx hw (lPerson_is ((lTown_people_E h0 j1 lj1)).2) dX5_walkTo_85 ?_
      refine lv_iload hx hb dX5_walkTo_88 (lv_at hl 2 rfl) ?_
      refine lv_iadd hx hb dX5_walkTo_90 ?_
      refine pi_X5_112 cx hw (lPerson_is ((lTown_people_E h0 j1 lj1)).2) dX5_walkTo_91 (fun mi6 H locs emi6 hw => ?_)
      have hf := nc_let_at hf emi6
      refine lv_iconst (v := 1) hx hb dX5_walkTo_94 (by decide) ?_
      exact nc_rpm hret hf rfl hw dX5_walkTo_95
    refine nc_loop_w (P := fun κ : Int32 → Option (nc_Mem × Int32) => ∀ (x7 : Int32), κ x7 = some res → ∀ (H : Heap) (locs : List Loc) (ls : Array Slot), nc_W G K mi H locs → lv_has ls 6 [(0, .ref o), (1, .int a1), (2, .int a2), (3, .ref (o + 5 + j1)), (4, .int q2), (5, .int x7)] → W p l e rm_X5_walkTo s m args below meth c H locs 0 0 Q (F0 m 30 ls [])) ?_ ?_ 200 _ hf _ _ _ hw (lv_sub hl [3, 4, 5, 2, 1, 0] rfl)
    · intro x7 hf; exact absurd hf (by intro q; cases q)
    · intro rc8 ihrc8 x7 hf H locs ls hw hl
      unfold B_X5_walkTo_30 at hf
      refine lv_iload hx hb dX5_walkTo_30 (lv_at hl 5 rfl) ?_
      refine lv_aload_n hx hb dX5_walkTo_32 rfl (lv_at hl 0 rfl) ?_
      refine gi_X5_55 cx hw (lTown_is h0) dX5_walkTo_33 ?_
      refine lv_icmp_ge (tgt := 78) hx hb dX5_walkTo_36 (by decide) (fun c9 => ?_) (fun c9 => ?_)
      · have hf := nc_ifp hf c9
        exact hk4 hf _ _ _ hw (lv_sub hl [2, 3, 4] rfl)
      · have hf := nc_ifn hf c9
        refine lv_aload_n hx hb dX5_walkTo_39 rfl (lv_at hl 0 rfl) ?_
        refine gr_X5_19 cx hw (lTown_is h0) (lTown_goods h0) (lTown_goods_L h0) dX5_walkTo_40 ?_
        refine lv_iload hx hb dX5_walkTo_43 (lv_at hl 5 rfl) ?_
        obtain ⟨j10, ej10, ij10, lj10, hf⟩ := nc_ix hf
        refine nc_ald cx hw (by decide) (lTown_goods_L h0) ij10 ej10 ((lTown_goods_E h0 j10 lj10)).1 (lThing_is ((lTown_goods_E h0 j10 lj10)).2) dX5_walkTo_45 ?_
        refine gi_X5_97 cx hw (lThing_is ((lTown_goods_E h0 j10 lj10)).2) dX5_walkTo_46 ?_
        refine lv_bipush (v := 10) hx hb dX5_walkTo_49 (by decide) ?_
        refine lv_iload_n hx hb dX5_walkTo_51 rfl (lv_at hl 1 rfl) ?_
        refine lv_iadd hx hb dX5_walkTo_52 ?_
        refine lv_icmp_ne (tgt := 72) hx hb dX5_walkTo_53 (by decide) (fun c11 => ?_) (fun c11 => ?_)
        · have hf := nc_ifn hf c11
          obtain ⟨x12, ex12⟩ : ∃ y : Int32, y = x7 + 1 := ⟨_, rfl⟩
          have hf := nc_let_at hf ex12
          refine lv_iinc (v := x12) (lv' := [(5, .int x12), (0, .ref o), (1, .int a1), (2, .int a2), (3, .ref (o + 5 + j1)), (4, .int q2)]) hx hb dX5_walkTo_72 hl (k := 5) rfl (by rw [ex12]; rfl) (by decide) rfl (fun ls hl => ?_)
          refine lv_goto (tgt := 30) hx hb dX5_walkTo_75 (by decide) ?_
          exact ihrc8 _ hf _ _ _ hw (lv_sub hl [1, 2, 3, 4, 5, 0] rfl)
        · have hf := nc_ifp hf c11
          refine lv_aload_n hx hb dX5_walkTo_56 rfl (lv_at hl 0 rfl) ?_
          refine lv_iload_n hx hb dX5_walkTo_57 rfl (lv_at hl 1 rfl) ?_
          refine lv_iload hx hb dX5_walkTo_58 (lv_at hl 5 rfl) ?_
          refine lv_aload_n hx hb dX5_walkTo_60 rfl (lv_at hl 3 rfl) ?_
          refine gi_X5_112 cx hw (lPerson_is ((lTown_people_E h0 j1 lj1)).2) dX5_walkTo_61 ?_
          obtain ⟨q13, hq13, hf⟩ := nc_bi hf
          refine nc_callVi cx hw lk_X5_151 (c_X5_letsCarry l h0 mi a1 x7 (mi (o + 5 + j1) 6) q13 hq13) (ci := 5) rfl (lTown_is h0) rfl hl.1 rfl (Nat.le_of_ble_eq_true rfl) ⟨rfl, rfl, Nat.le_of_ble_eq_true rfl, Nat.le_of_ble_eq_true rfl⟩ dX5_walkTo_64 (fun H locs hw => ?_)
          refine lv_if_ne (tgt := 72) hx hb dX5_walkTo_67 (by decide) (fun c14 => ?_) (fun c14 => ?_)
          · have hf := nc_ifn hf c14
            obtain ⟨x15, ex15⟩ : ∃ y : Int32, y = x7 + 1 := ⟨_, rfl⟩
            have hf := nc_let_at hf ex15
            refine lv_iinc (v := x15) (lv' := [(5, .int x15), (0, .ref o), (1, .int a1), (2, .int a2), (3, .ref (o + 5 + j1)), (4, .int q2)]) hx hb dX5_walkTo_72 hl (k := 5) rfl (by rw [ex15]; rfl) (by decide) rfl (fun ls hl => ?_)
            refine lv_goto (tgt := 30) hx hb dX5_walkTo_75 (by decide) ?_
            exact ihrc8 _ hf _ _ _ hw (lv_sub hl [1, 2, 3, 4, 5, 0] rfl)
          · have hf := nc_ifp hf c14
            refine lv_iconst (v := 0) hx hb dX5_walkTo_70 (by decide) ?_
            exact nc_rpm hret hf rfl hw dX5_walkTo_71
  · have hf := nc_ifn hf c3
    refine lv_iconst (v := 0) hx hb dX5_walkTo_25 (by decide) ?_
    exact nc_rpm hret hf rfl hw dX5_walkTo_26
abbrev rm_X7_go : Room := { frames := 3, cells := 0, slots := 0, locals := 75 }
set_option maxRecDepth 100000 in
set_option maxHeartbeats 4000000 in
theorem c_X7_go (l : Launch) {G : nc_G} {K : nc_K} {o : Nat} (h0 : nc_LNC G K o) (mi : nc_Mem) (a1 a2 : Int32) (res : nc_Mem × Int32) (hf : f_X7_go mi o a1 a2 = some res) : nc_M l yX7_go cX7_go 3 (some .int) rm_X7_go 0 0 G K K [.ref o, .int a1, .int a2] mi res.1 (some (.int res.2)) := by
  refine nc_meet_i (by decide) (Nat.le_of_ble_eq_true rfl) ?_
  intro p e s m args below meth c Q H locs ls cx hret hw hl
  have cx : nc_C p s m args c cX7_go 3 RX7 G := cx
  have hl : lv_has ls 3 [(0, .ref o), (1, .int a1), (2, .int a2)] := hl
  have hx := cx.1
  have hb := cx.2.1
  unfold f_X7_go at hf
  refine lv_aload_n hx hb dX7_go_0 rfl (lv_at hl 0 rfl) ?_
  refine gr_X7_10 cx hw (lNC_is h0) (lNC_now h0) (lTown_is (lNC_now_L h0)) dX7_go_1 ?_
  refine lv_iload_n hx hb dX7_go_4 rfl (lv_at hl 1 rfl) ?_
  refine nc_callVi cx hw lk_X7_86 (c_X5_isPerson l (lNC_now_L h0) mi a1 _ rfl) (ci := 5) rfl (lTown_is (lNC_now_L h0)) rfl hl.1 rfl (Nat.le_of_ble_eq_true rfl) ⟨rfl, rfl, Nat.le_of_ble_eq_true rfl, Nat.le_of_ble_eq_true rfl⟩ dX7_go_5 (fun H locs hw => ?_)
  obtain ⟨k1, ek1, hf⟩ := nc_jn_of hf
  have hk1 : k1 = some res → ∀ (H : Heap) (locs : List Loc) (ls : Array Slot), nc_W G K mi H locs → lv_has ls 3 [(0, .ref o)] → W p l e rm_X7_go s m args below meth c H locs 0 0 Q (F0 m 22 ls []) := by
    intro hf H locs ls hw hl
    have hf := (ek1).symm.trans hf
    refine lv_aload_n hx hb dX7_go_22 rfl (lv_at hl 0 rfl) ?_
    refine lv_iconst (v := (-1)) hx hb dX7_go_23 (by decide) ?_
    obtain ⟨q2, hq2, hf⟩ := nc_bi hf
    refine nc_callVi cx hw lk_X7_60 (c_X7_refuse l h0 mi (-1) q2 hq2) (ci := 7) rfl (lNC_is h0) rfl hl.1 rfl (Nat.le_of_ble_eq_true rfl) ⟨rfl, rfl, Nat.le_of_ble_eq_true rfl, Nat.le_of_ble_eq_true rfl⟩ dX7_go_24 (fun H locs hw => ?_)
    exact nc_rpm hret hf rfl hw dX7_go_27
  refine lv_if_eq (tgt := 22) hx hb dX7_go_8 (by decide) (fun c3 => ?_) (fun c3 => ?_)
  · have hf := nc_ifp hf c3
    exact hk1 hf _ _ _ hw (lv_sub hl [0] rfl)
  · have hf := nc_ifn hf c3
    refine lv_aload_n hx hb dX7_go_11 rfl (lv_at hl 0 rfl) ?_
    refine gr_X7_10 cx hw (lNC_is h0) (lNC_now h0) (lTown_is (lNC_now_L h0)) dX7_go_12 ?_
    refine lv_iload_n hx hb dX7_go_15 rfl (lv_at hl 2 rfl) ?_
    refine nc_callVi cx hw lk_X7_78 (c_X5_isPlace l (lNC_now_L h0) mi a2 _ rfl) (ci := 5) rfl (lTown_is (lNC_now_L h0)) rfl hl.1 rfl (Nat.le_of_ble_eq_true rfl) ⟨rfl, rfl, Nat.le_of_ble_eq_true rfl, Nat.le_of_ble_eq_true rfl⟩ dX7_go_16 (fun H locs hw => ?_)
    refine lv_if_ne (tgt := 28) hx hb dX7_go_19 (by decide) (fun c4 => ?_) (fun c4 => ?_)
    · have hf := nc_ifn hf c4
      refine lv_aload_n hx hb dX7_go_28 rfl (lv_at hl 0 rfl) ?_
      refine gr_X7_10 cx hw (lNC_is h0) (lNC_now h0) (lTown_is (lNC_now_L h0)) dX7_go_29 ?_
      refine lv_iload_n hx hb dX7_go_32 rfl (lv_at hl 1 rfl) ?_
      refine lv_iload_n hx hb dX7_go_33 rfl (lv_at hl 2 rfl) ?_
      obtain ⟨q5, hq5, hf⟩ := nc_bi hf
      refine nc_callVi cx hw lk_X7_125 (c_X5_walkTo l (lNC_now_L h0) mi a1 a2 q5 hq5) (ci := 5) rfl (lTown_is (lNC_now_L h0)) rfl hl.1 rfl (Nat.le_of_ble_eq_true rfl) ⟨rfl, rfl, Nat.le_of_ble_eq_true rfl, Nat.le_of_ble_eq_true rfl⟩ dX7_go_34 (fun H locs hw => ?_)
      refine lv_if_eq (tgt := 55) hx hb dX7_go_37 (by decide) (fun c6 => ?_) (fun c6 => ?_)
      · have hf := nc_ifp hf c6
        refine lv_aload_n hx hb dX7_go_55 rfl (lv_at hl 0 rfl) ?_
        refine lv_bipush (v := (-3)) hx hb dX7_go_56 (by decide) ?_
        obtain ⟨q7, hq7, hf⟩ := nc_bi hf
        refine nc_callVi cx hw lk_X7_60 (c_X7_refuse l h0 q5.1 (-3) q7 hq7) (ci := 7) rfl (lNC_is h0) rfl hl.1 rfl (Nat.le_of_ble_eq_true rfl) ⟨rfl, rfl, Nat.le_of_ble_eq_true rfl, Nat.le_of_ble_eq_true rfl⟩ dX7_go_58 (fun H locs hw => ?_)
        exact nc_rpm hret hf rfl hw dX7_go_61
      · have hf := nc_ifn hf c6
        refine lv_aload_n hx hb dX7_go_40 rfl (lv_at hl 0 rfl) ?_
        refine gr_X7_10 cx hw (lNC_is h0) (lNC_now h0) (lTown_is (lNC_now_L h0)) dX7_go_41 ?_
        refine gr_X7_92 cx hw (lTown_is (lNC_now_L h0)) (lTown_people (lNC_now_L h0)) (lTown_people_L (lNC_now_L h0)) dX7_go_44 ?_
        refine lv_iload_n hx hb dX7_go_47 rfl (lv_at hl 1 rfl) ?_
        obtain ⟨j8, ej8, ij8, lj8, hf⟩ := nc_ix hf
        refine nc_ald cx hw (by decide) (lTown_people_L (lNC_now_L h0)) ij8 ej8 ((lTown_people_E (lNC_now_L h0) j8 lj8)).1 (lPerson_is ((lTown_people_E (lNC_now_L h0) j8 lj8)).2) dX7_go_48 ?_
        refine gi_X7_122 cx hw (lPerson_is ((lTown_people_E (lNC_now_L h0) j8 lj8)).2) dX7_go_49 ?_
        refine lv_goto (tgt := 61) hx hb dX7_go_52 (by decide) ?_
        exact nc_rpm hret hf rfl hw dX7_go_61
    · have hf := nc_ifp hf c4
      exact hk1 hf _ _ _ hw (lv_sub hl [0] rfl)
