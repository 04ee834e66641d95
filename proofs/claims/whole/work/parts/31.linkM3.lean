abbrev rm_X8_bars : Room := { frames := 5, cells := 0, slots := 0, locals := 126 }
set_option maxRecDepth 100000 in
set_option maxHeartbeats 4000000 in
theorem c_X8_bars (l : Launch) {G : nc_G} {K : nc_K} {o : Nat} (h0 : nc_LModel G K o) (mi : nc_Mem) (a1 : Int32) (res : nc_Mem × Int32) (hf : f_X8_bars mi o a1 = some res) : nc_M l yX8_bars cX8_bars 4 (some .int) rm_X8_bars 0 0 G K K [.ref o, .int a1] mi res.1 (some (.int res.2)) := by
  refine nc_meet_i (by decide) (Nat.le_of_ble_eq_true rfl) ?_
  intro p e s m args below meth c Q H locs ls cx hret hw hl
  have cx : nc_C p s m args c cX8_bars 4 RX8 G := cx
  have hl : lv_has ls 4 [(0, .ref o), (1, .int a1)] := hl
  have hx := cx.1
  have hb := cx.2.1
  unfold f_X8_bars at hf
  refine lv_aload_n hx hb dX8_bars_0 rfl (lv_at hl 0 rfl) ?_
  refine lv_iload_n hx hb dX8_bars_1 rfl (lv_at hl 1 rfl) ?_
  obtain ⟨q1, hq1, hf⟩ := nc_bi hf
  refine nc_callVi cx hw lk_X8_145 (c_X8_isThing l h0 mi a1 q1 hq1) (ci := 8) rfl (lModel_is h0) rfl hl.1 rfl (Nat.le_of_ble_eq_true rfl) ⟨rfl, rfl, Nat.le_of_ble_eq_true rfl, Nat.le_of_ble_eq_true rfl⟩ dX8_bars_2 (fun H locs hw => ?_)
  refine lv_if_ne (tgt := 14) hx hb dX8_bars_5 (by decide) (fun c2 => ?_) (fun c2 => ?_)
  · have hf := nc_ifn hf c2
    refine lv_aload_n hx hb dX8_bars_14 rfl (lv_at hl 0 rfl) ?_
    obtain ⟨q3, hq3, hf⟩ := nc_bi hf
    refine nc_callVv cx hw lk_X8_185 (c_X8_findWays l h0 mi  q3 hq3) (ci := 8) rfl (lModel_is h0) rfl hl.1 rfl (Nat.le_of_ble_eq_true rfl) ⟨rfl, rfl, Nat.le_of_ble_eq_true rfl, Nat.le_of_ble_eq_true rfl⟩ dX8_bars_15 (fun H locs hw => ?_)
    refine lv_iconst (v := 0) hx hb dX8_bars_18 (by decide) ?_
    refine lv_istore_n (lv' := [(2, .int 0), (0, .ref o), (1, .int a1)]) hx hb dX8_bars_19 rfl hl (by decide) rfl (fun ls hl => ?_)
    refine lv_aload_n hx hb dX8_bars_20 rfl (lv_at hl 1 rfl) ?_
    refine lv_aload_n hx hb dX8_bars_21 rfl (lv_at hl 1 rfl) ?_
    refine gi_X8_148 cx hw (lModel_is h0) dX8_bars_22 ?_
    refine lv_iload_n hx hb dX8_bars_25 rfl (lv_at hl 2 rfl) ?_
    refine lv_bipush (v := (-9)) hx hb dX8_bars_26 (by decide) ?_
    obtain ⟨q4, hq4, hf⟩ := nc_bi hf
    refine nc_callVi cx hw lk_X8_188 (c_X8_soonestBy l h0 q3 (q3 o 11) a1 (-9) q4 hq4) (ci := 8) rfl (lModel_is h0) rfl hl.1 rfl (Nat.le_of_ble_eq_true rfl) ⟨rfl, rfl, Nat.le_of_ble_eq_true rfl, Nat.le_of_ble_eq_true rfl⟩ dX8_bars_28 (fun H locs hw => ?_)
    refine lv_bipush (v := (-9)) hx hb dX8_bars_31 (by decide) ?_
    refine lv_icmp_ne (tgt := 86) hx hb dX8_bars_33 (by decide) (fun c5 => ?_) (fun c5 => ?_)
    · have hf := nc_ifn hf c5
      refine lv_iload_n hx hb dX8_bars_86 rfl (lv_at hl 0 rfl) ?_
      exact nc_rpm hret hf rfl hw dX8_bars_87
    · have hf := nc_ifp hf c5
      refine lv_iconst (v := 0) hx hb dX8_bars_36 (by decide) ?_
      refine lv_istore_n (lv' := [(3, .int 0), (2, .int 0), (0, .ref o), (1, .int a1)]) hx hb dX8_bars_37 rfl hl (by decide) rfl (fun ls hl => ?_)
      refine nc_loop_w (P := fun κ : Int32 → Int32 → nc_Mem → Option (nc_Mem × Int32) => ∀ (x6 : Int32) (x7 : Int32) (mi8 : nc_Mem), κ x6 x7 mi8 = some res → ∀ (H : Heap) (locs : List Loc) (ls : Array Slot), nc_W G K mi8 H locs → lv_has ls 4 [(0, .ref o), (1, .int a1), (2, .int x6), (3, .int x7)] → W p l e rm_X8_bars s m args below meth c H locs 0 0 Q (F0 m 38 ls [])) ?_ ?_ 200 _ _ _ hf _ _ _ hw (lv_sub hl [2, 3, 1, 0] rfl)
      · intro x6 x7 mi8 hf; exact absurd hf (by intro q; cases q)
      · intro rc9 ihrc9 x6 x7 mi8 hf H locs ls hw hl
        unfold B_X8_bars_38 at hf
        refine lv_iload_n hx hb dX8_bars_38 rfl (lv_at hl 3 rfl) ?_
        refine lv_aload_n hx hb dX8_bars_39 rfl (lv_at hl 0 rfl) ?_
        refine gi_X8_65 cx hw (lModel_is h0) dX8_bars_40 ?_
        refine lv_icmp_ge (tgt := 86) hx hb dX8_bars_43 (by decide) (fun c10 => ?_) (fun c10 => ?_)
        · have hf := nc_ifp hf c10
          refine lv_iload_n hx hb dX8_bars_86 rfl (lv_at hl 2 rfl) ?_
          exact nc_rpm hret hf rfl hw dX8_bars_87
        · have hf := nc_ifn hf c10
          refine lv_iload_n hx hb dX8_bars_46 rfl (lv_at hl 2 rfl) ?_
          refine lv_aload_n hx hb dX8_bars_47 rfl (lv_at hl 0 rfl) ?_
          refine lv_iload_n hx hb dX8_bars_48 rfl (lv_at hl 3 rfl) ?_
          refine lv_iload_n hx hb dX8_bars_49 rfl (lv_at hl 1 rfl) ?_
          obtain ⟨q11, hq11, hf⟩ := nc_bi hf
          refine nc_callVi cx hw lk_X8_158 (c_X8_isFree l h0 mi8 x7 a1 q11 hq11) (ci := 8) rfl (lModel_is h0) rfl hl.1 rfl (Nat.le_of_ble_eq_true rfl) ⟨rfl, rfl, Nat.le_of_ble_eq_true rfl, Nat.le_of_ble_eq_true rfl⟩ dX8_bars_50 (fun H locs hw => ?_)
          refine lv_if_eq (tgt := 77) hx hb dX8_bars_53 (by decide) (fun c12 => ?_) (fun c12 => ?_)
          · have hf := nc_ifp hf c12
            refine lv_iconst (v := 0) hx hb dX8_bars_77 (by decide) ?_
            refine lv_ior hx hb dX8_bars_78 ?_
            refine lv_topi (fun x13 ex13 => ?_)
            have hf := nc_let_at hf ex13
            refine lv_istore_n (lv' := [(2, .int x13), (0, .ref o), (1, .int a1), (3, .int x7)]) hx hb dX8_bars_79 rfl hl (by decide) rfl (fun ls hl => ?_)
            obtain ⟨x14, ex14⟩ : ∃ y : Int32, y = x7 + 1 := ⟨_, rfl⟩
            have hf := nc_let_at hf ex14
            refine lv_iinc (v := x14) (lv' := [(3, .int x14), (2, .int x13), (0, .ref o), (1, .int a1)]) hx hb dX8_bars_80 hl (k := 3) rfl (by rw [ex14]; rfl) (by decide) rfl (fun ls hl => ?_)
            refine lv_goto (tgt := 38) hx hb dX8_bars_83 (by decide) ?_
            exact ihrc9 _ _ _ hf _ _ _ hw (lv_sub hl [2, 3, 1, 0] rfl)
          · have hf := nc_ifn hf c12
            refine lv_aload_n hx hb dX8_bars_56 rfl (lv_at hl 0 rfl) ?_
            refine lv_aload_n hx hb dX8_bars_57 rfl (lv_at hl 0 rfl) ?_
            refine gi_X8_148 cx hw (lModel_is h0) dX8_bars_58 ?_
            refine lv_iload_n hx hb dX8_bars_61 rfl (lv_at hl 1 rfl) ?_
            refine lv_iload_n hx hb dX8_bars_62 rfl (lv_at hl 3 rfl) ?_
            obtain ⟨q15, hq15, hf⟩ := nc_bi hf
            refine nc_callVi cx hw lk_X8_188 (c_X8_soonestBy l h0 mi8 (mi8 o 11) a1 x7 q15 hq15) (ci := 8) rfl (lModel_is h0) rfl hl.1 rfl (Nat.le_of_ble_eq_true rfl) ⟨rfl, rfl, Nat.le_of_ble_eq_true rfl, Nat.le_of_ble_eq_true rfl⟩ dX8_bars_63 (fun H locs hw => ?_)
            refine lv_bipush (v := (-9)) hx hb dX8_bars_66 (by decide) ?_
            refine lv_icmp_eq (tgt := 77) hx hb dX8_bars_68 (by decide) (fun c16 => ?_) (fun c16 => ?_)
            · have hf := nc_ifp hf c16
              refine lv_iconst (v := 0) hx hb dX8_bars_77 (by decide) ?_
              refine lv_ior hx hb dX8_bars_78 ?_
              refine lv_topi (fun x17 ex17 => ?_)
              have hf := nc_let_at hf ex17
              refine lv_istore_n (lv' := [(2, .int x17), (0, .ref o), (1, .int a1), (3, .int x7)]) hx hb dX8_bars_79 rfl hl (by decide) rfl (fun ls hl => ?_)
              obtain ⟨x18, ex18⟩ : ∃ y : Int32, y = x7 + 1 := ⟨_, rfl⟩
              have hf := nc_let_at hf ex18
              refine lv_iinc (v := x18) (lv' := [(3, .int x18), (2, .int x17), (0, .ref o), (1, .int a1)]) hx hb dX8_bars_80 hl (k := 3) rfl (by rw [ex18]; rfl) (by decide) rfl (fun ls hl => ?_)
              refine lv_goto (tgt := 38) hx hb dX8_bars_83 (by decide) ?_
              exact ihrc9 _ _ _ hf _ _ _ hw (lv_sub hl [2, 3, 1, 0] rfl)
            · have hf := nc_ifn hf c16
              refine lv_iconst (v := 1) hx hb dX8_bars_71 (by decide) ?_
              refine lv_iload_n hx hb dX8_bars_72 rfl (lv_at hl 3 rfl) ?_
              refine lv_ishl hx hb dX8_bars_73 ?_
              refine lv_goto (tgt := 78) hx hb dX8_bars_74 (by decide) ?_
              refine lv_ior hx hb dX8_bars_78 ?_
              refine lv_topi (fun x19 ex19 => ?_)
              have hf := nc_let_at hf ex19
              refine lv_istore_n (lv' := [(2, .int x19), (0, .ref o), (1, .int a1), (3, .int x7)]) hx hb dX8_bars_79 rfl hl (by decide) rfl (fun ls hl => ?_)
              obtain ⟨x20, ex20⟩ : ∃ y : Int32, y = x7 + 1 := ⟨_, rfl⟩
              have hf := nc_let_at hf ex20
              refine lv_iinc (v := x20) (lv' := [(3, .int x20), (2, .int x19), (0, .ref o), (1, .int a1)]) hx hb dX8_bars_80 hl (k := 3) rfl (by rw [ex20]; rfl) (by decide) rfl (fun ls hl => ?_)
              refine lv_goto (tgt := 38) hx hb dX8_bars_83 (by decide) ?_
              exact ihrc9 _ _ _ hf _ _ _ hw (lv_sub hl [2, 3, 1, 0] rfl)
  · have hf := nc_ifp hf c2
    refine lv_aload_n hx hb dX8_bars_8 rfl (lv_at hl 0 rfl) ?_
    refine lv_iconst (v := (-1)) hx hb dX8_bars_9 (by decide) ?_
    obtain ⟨q21, hq21, hf⟩ := nc_bi hf
    refine nc_callVi cx hw lk_X8_71 (c_X8_refuse l h0 mi (-1) q21 hq21) (ci := 8) rfl (lModel_is h0) rfl hl.1 rfl (Nat.le_of_ble_eq_true rfl) ⟨rfl, rfl, Nat.le_of_ble_eq_true rfl, Nat.le_of_ble_eq_true rfl⟩ dX8_bars_10 (fun H locs hw => ?_)
    exact nc_rpm hret hf rfl hw dX8_bars_13
abbrev rm_X8_never : Room := { frames := 5, cells := 0, slots := 0, locals := 126 }
set_option maxRecDepth 100000 in
set_option maxHeartbeats 4000000 in
theorem c_X8_never (l : Launch) {G : nc_G} {K : nc_K} {o : Nat} (h0 : nc_LModel G K o) (mi : nc_Mem)  (res : nc_Mem × Int32) (hf : f_X8_never mi o = some res) : nc_M l yX8_never cX8_never 3 (some .int) rm_X8_never 0 0 G K K [.ref o] mi res.1 (some (.int res.2)) := by
  refine nc_meet_i (by decide) (Nat.le_of_ble_eq_true rfl) ?_
  intro p e s m args below meth c Q H locs ls cx hret hw hl
  have cx : nc_C p s m args c cX8_never 3 RX8 G := cx
  have hl : lv_has ls 3 [(0, .ref o)] := hl
  have hx := cx.1
  have hb := cx.2.1
  unfold f_X8_never at hf
  refine lv_aload_n hx hb dX8_never_0 rfl (lv_at hl 0 rfl) ?_
  obtain ⟨q1, hq1, hf⟩ := nc_bi hf
  refine nc_callVv cx hw lk_X8_185 (c_X8_findWays l h0 mi  q1 hq1) (ci := 8) rfl (lModel_is h0) rfl hl.1 rfl (Nat.le_of_ble_eq_true rfl) ⟨rfl, rfl, Nat.le_of_ble_eq_true rfl, Nat.le_of_ble_eq_true rfl⟩ dX8_never_1 (fun H locs hw => ?_)
  refine lv_iconst (v := 0) hx hb dX8_never_4 (by decide) ?_
  refine lv_istore_n (lv' := [(1, .int 0), (0, .ref o)]) hx hb dX8_never_5 rfl hl (by decide) rfl (fun ls hl => ?_)
  refine lv_iconst (v := 0) hx hb dX8_never_6 (by decide) ?_
  refine lv_istore_n (lv' := [(2, .int 0), (1, .int 0), (0, .ref o)]) hx hb dX8_never_7 rfl hl (by decide) rfl (fun ls hl => ?_)
  refine nc_loop_w (P := fun κ : Int32 → Int32 → nc_Mem → Option (nc_Mem × Int32) => ∀ (x2 : Int32) (x3 : Int32) (mi4 : nc_Mem), κ x2 x3 mi4 = some res → ∀ (H : Heap) (locs : List Loc) (ls : Array Slot), nc_W G K mi4 H locs → lv_has ls 3 [(0, .ref o), (1, .int x2), (2, .int x3)] → W p l e rm_X8_never s m args below meth c H locs 0 0 Q (F0 m 8 ls [])) ?_ ?_ 200 _ _ _ hf _ _ _ hw (lv_sub hl [2, 1, 0] rfl)
  · intro x2 x3 mi4 hf; exact absurd hf (by intro q; cases q)
  · intro rc5 ihrc5 x2 x3 mi4 hf H locs ls hw hl
    unfold B_X8_never_8 at hf
    refine lv_iload_n hx hb dX8_never_8 rfl (lv_at hl 2 rfl) ?_
    refine lv_aload_n hx hb dX8_never_9 rfl (lv_at hl 0 rfl) ?_
    refine gi_X8_68 cx hw (lModel_is h0) dX8_never_10 ?_
    refine lv_icmp_ge (tgt := 48) hx hb dX8_never_13 (by decide) (fun c6 => ?_) (fun c6 => ?_)
    · have hf := nc_ifp hf c6
      refine lv_iload_n hx hb dX8_never_48 rfl (lv_at hl 1 rfl) ?_
      exact nc_rpm hret hf rfl hw dX8_never_49
    · have hf := nc_ifn hf c6
      refine lv_iload_n hx hb dX8_never_16 rfl (lv_at hl 1 rfl) ?_
      refine lv_aload_n hx hb dX8_never_17 rfl (lv_at hl 0 rfl) ?_
      refine lv_aload_n hx hb dX8_never_18 rfl (lv_at hl 0 rfl) ?_
      refine gi_X8_148 cx hw (lModel_is h0) dX8_never_19 ?_
      refine lv_iload_n hx hb dX8_never_22 rfl (lv_at hl 2 rfl) ?_
      refine lv_bipush (v := (-9)) hx hb dX8_never_23 (by decide) ?_
      obtain ⟨q7, hq7, hf⟩ := nc_bi hf
      refine nc_callVi cx hw lk_X8_188 (c_X8_soonestBy l h0 mi4 (mi4 o 11) x3 (-9) q7 hq7) (ci := 8) rfl (lModel_is h0) rfl hl.1 rfl (Nat.le_of_ble_eq_true rfl) ⟨rfl, rfl, Nat.le_of_ble_eq_true rfl, Nat.le_of_ble_eq_true rfl⟩ dX8_never_25 (fun H locs hw => ?_)
      refine lv_bipush (v := (-9)) hx hb dX8_never_28 (by decide) ?_
      refine lv_icmp_ne (tgt := 39) hx hb dX8_never_30 (by decide) (fun c8 => ?_) (fun c8 => ?_)
      · have hf := nc_ifn hf c8
        refine lv_iconst (v := 0) hx hb dX8_never_39 (by decide) ?_
        refine lv_ior hx hb dX8_never_40 ?_
        refine lv_topi (fun x9 ex9 => ?_)
        have hf := nc_let_at hf ex9
        refine lv_istore_n (lv' := [(1, .int x9), (0, .ref o), (2, .int x3)]) hx hb dX8_never_41 rfl hl (by decide) rfl (fun ls hl => ?_)
        obtain ⟨x10, ex10⟩ : ∃ y : Int32, y = x3 + 1 := ⟨_, rfl⟩
        have hf := nc_let_at hf ex10
        refine lv_iinc (v := x10) (lv' := [(2, .int x10), (1, .int x9), (0, .ref o)]) hx hb dX8_never_42 hl (k := 2) rfl (by rw [ex10]; rfl) (by decide) rfl (fun ls hl => ?_)
        refine lv_goto (tgt := 8) hx hb dX8_never_45 (by decide) ?_
        exact ihrc5 _ _ _ hf _ _ _ hw (lv_sub hl [2, 1, 0] rfl)
      · have hf := nc_ifp hf c8
        refine lv_iconst (v := 1) hx hb dX8_never_33 (by decide) ?_
        refine lv_iload_n hx hb dX8_never_34 rfl (lv_at hl 2 rfl) ?_
        refine lv_ishl hx hb dX8_never_35 ?_
        refine lv_goto (tgt := 40) hx hb dX8_never_36 (by decide) ?_
        refine lv_ior hx hb dX8_never_40 ?_
        refine lv_topi (fun x11 ex11 => ?_)
        have hf := nc_let_at hf ex11
        refine lv_istore_n (lv' := [(1, .int x11), (0, .ref o), (2, .int x3)]) hx hb dX8_never_41 rfl hl (by decide) rfl (fun ls hl => ?_)
        obtain ⟨x12, ex12⟩ : ∃ y : Int32, y = x3 + 1 := ⟨_, rfl⟩
        have hf := nc_let_at hf ex12
        refine lv_iinc (v := x12) (lv' := [(2, .int x12), (1, .int x11), (0, .ref o)]) hx hb dX8_never_42 hl (k := 2) rfl (by rw [ex12]; rfl) (by decide) rfl (fun ls hl => ?_)
        refine lv_goto (tgt := 8) hx hb dX8_never_45 (by decide) ?_
        exact ihrc5 _ _ _ hf _ _ _ hw (lv_sub hl [2, 1, 0] rfl)
abbrev rm_X8_isComeBy : Room := { frames := 3, cells := 0, slots := 0, locals := 73 }
set_option maxRecDepth 100000 in
set_option maxHeartbeats 4000000 in
theorem c_X8_isComeBy (l : Launch) {G : nc_G} {K : nc_K} {o : Nat} (h0 : nc_LModel G K o) (mi : nc_Mem) (a1 a2 : Int32) (res : Int32) (hf : f_X8_isComeBy mi o a1 a2 = some res) : nc_M l yX8_isComeBy cX8_isComeBy 5 (some .boolean) rm_X8_isComeBy 0 0 G K K [.ref o, .int a1, .int a2] mi mi (some (.int res)) := by
  refine nc_meet_i (by decide) (Nat.le_of_ble_eq_true rfl) ?_
  intro p e s m args below meth c Q H locs ls cx hret hw hl
  have cx : nc_C p s m args c cX8_isComeBy 5 RX8 G := cx
  have hl : lv_has ls 5 [(0, .ref o), (1, .int a1), (2, .int a2)] := hl
  have hx := cx.1
  have hb := cx.2.1
  unfold f_X8_isComeBy at hf
  refine lv_iconst (v := 0) hx hb dX8_isComeBy_0 (by decide) ?_
  refine lv_istore_n (lv' := [(3, .int 0), (0, .ref o), (1, .int a1), (2, .int a2)]) hx hb dX8_isComeBy_1 rfl hl (by decide) rfl (fun ls hl => ?_)
  refine nc_loop_w (P := fun κ : Int32 → Option (Int32) => ∀ (x1 : Int32), κ x1 = some res → ∀ (H : Heap) (locs : List Loc) (ls : Array Slot), nc_W G K mi H locs → lv_has ls 5 [(0, .ref o), (1, .int a1), (2, .int a2), (3, .int x1)] → W p l e rm_X8_isComeBy s m args below meth c H locs 0 0 Q (F0 m 2 ls [])) ?_ ?_ 200 _ hf _ _ _ hw (lv_sub hl [1, 2, 3, 0] rfl)
  · intro x1 hf; exact absurd hf (by intro q; cases q)
  · intro rc2 ihrc2 x1 hf H locs ls hw hl
    unfold B_X8_isComeBy_2 at hf
    refine lv_iload_n hx hb dX8_isComeBy_2 rfl (lv_at hl 3 rfl) ?_
    refine lv_aload_n hx hb dX8_isComeBy_3 rfl (lv_at hl 0 rfl) ?_
    refine gi_X8_65 cx hw (lModel_is h0) dX8_isComeBy_4 ?_
    refine lv_icmp_ge (tgt := 75) hx hb dX8_isComeBy_7 (by decide) (fun c3 => ?_) (fun c3 => ?_)
    · have hf := nc_ifp hf c3
      refine lv_iconst (v := 0) hx hb dX8_isComeBy_75 (by decide) ?_
      exact nc_rpp hret hf rfl hw dX8_isComeBy_76
    · have hf := nc_ifn hf c3
      refine lv_iconst (v := 0) hx hb dX8_isComeBy_10 (by decide) ?_
      refine lv_istore (lv' := [(4, .int 0), (0, .ref o), (1, .int a1), (2, .int a2), (3, .int x1)]) hx hb dX8_isComeBy_11 hl (by decide) rfl (fun ls hl => ?_)
      refine nc_loop_w (P := fun κ : Int32 → Option (Int32) => ∀ (x4 : Int32), κ x4 = some res → ∀ (H : Heap) (locs : List Loc) (ls : Array Slot), nc_W G K mi H locs → lv_has ls 5 [(0, .ref o), (1, .int a1), (2, .int a2), (3, .int x1), (4, .int x4)] → W p l e rm_X8_isComeBy s m args below meth c H locs 0 0 Q (F0 m 13 ls [])) ?_ ?_ 200 _ hf _ _ _ hw (lv_sub hl [1, 2, 3, 4, 0] rfl)
      · intro x4 hf; exact absurd hf (by intro q; cases q)
      · intro rc5 ihrc5 x4 hf H locs ls hw hl
        unfold B_X8_isComeBy_13 at hf
        refine lv_iload hx hb dX8_isComeBy_13 (lv_at hl 4 rfl) ?_
        refine lv_aload_n hx hb dX8_isComeBy_15 rfl (lv_at hl 0 rfl) ?_
        refine gr_X8_46 cx hw (lModel_is h0) (lModel_stops h0) (lModel_stops_L h0) dX8_isComeBy_16 ?_
        refine lv_iload_n hx hb dX8_isComeBy_19 rfl (lv_at hl 3 rfl) ?_
        obtain ⟨j6, ej6, ij6, lj6, hf⟩ := nc_ix hf
        refine nc_ild cx hw (lModel_stops_L h0) ij6 ej6 dX8_isComeBy_20 ?_
        refine lv_icmp_ge (tgt := 69) hx hb dX8_isComeBy_21 (by decide) (fun c7 => ?_) (fun c7 => ?_)
        · have hf := nc_ifp hf c7
          obtain ⟨x8, ex8⟩ : ∃ y : Int32, y = x1 + 1 := ⟨_, rfl⟩
          have hf := nc_let_at hf ex8
          refine lv_iinc (v := x8) (lv' := [(3, .int x8), (0, .ref o), (1, .int a1), (2, .int a2), (4, .int x4)]) hx hb dX8_isComeBy_69 hl (k := 3) rfl (by rw [ex8]; rfl) (by decide) rfl (fun ls hl => ?_)
          refine lv_goto (tgt := 2) hx hb dX8_isComeBy_72 (by decide) ?_
          exact ihrc2 _ hf _ _ _ hw (lv_sub hl [1, 2, 3, 0] rfl)
        · have hf := nc_ifn hf c7
          refine lv_aload_n hx hb dX8_isComeBy_24 rfl (lv_at hl 0 rfl) ?_
          refine gr_X8_40 cx hw (lModel_is h0) (lModel_stop h0) ((lModel_stop_L h0)).1 dX8_isComeBy_25 ?_
          refine lv_iload_n hx hb dX8_isComeBy_28 rfl (lv_at hl 3 rfl) ?_
          refine nc_ald cx hw (by decide) ((lModel_stop_L h0)).1 ij6 ej6 (((lModel_stop_L h0)).2 j6 lj6).1 (((lModel_stop_L h0)).2 j6 lj6).2 dX8_isComeBy_29 ?_
          refine lv_iload hx hb dX8_isComeBy_30 (lv_at hl 4 rfl) ?_
          obtain ⟨j9, ej9, ij9, lj9, hf⟩ := nc_ix hf
          refine nc_ild cx hw (((lModel_stop_L h0)).2 j6 lj6).2 ij9 ej9 dX8_isComeBy_32 ?_
          refine lv_iload_n hx hb dX8_isComeBy_33 rfl (lv_at hl 2 rfl) ?_
          refine lv_icmp_ne (tgt := 63) hx hb dX8_isComeBy_34 (by decide) (fun c10 => ?_) (fun c10 => ?_)
          · have hf := nc_ifn hf c10
            obtain ⟨x11, ex11⟩ : ∃ y : Int32, y = x4 + 1 := ⟨_, rfl⟩
            have hf := nc_let_at hf ex11
            refine lv_iinc (v := x11) (lv' := [(4, .int x11), (0, .ref o), (1, .int a1), (2, .int a2), (3, .int x1)]) hx hb dX8_isComeBy_63 hl (k := 4) rfl (by rw [ex11]; rfl) (by decide) rfl (fun ls hl => ?_)
            refine lv_goto (tgt := 13) hx hb dX8_isComeBy_66 (by decide) ?_
            exact ihrc5 _ hf _ _ _ hw (lv_sub hl [1, 2, 3, 4, 0] rfl)
          · have hf := nc_ifp hf c10
            refine lv_aload_n hx hb dX8_isComeBy_37 rfl (lv_at hl 0 rfl) ?_
            refine lv_aload_n hx hb dX8_isComeBy_38 rfl (lv_at hl 0 rfl) ?_
            refine gi_X8_148 cx hw (lModel_is h0) dX8_isComeBy_39 ?_
            refine lv_iload_n hx hb dX8_isComeBy_42 rfl (lv_at hl 3 rfl) ?_
            refine lv_iload_n hx hb dX8_isComeBy_43 rfl (lv_at hl 1 rfl) ?_
            refine lv_aload_n hx hb dX8_isComeBy_44 rfl (lv_at hl 0 rfl) ?_
            refine gr_X8_43 cx hw (lModel_is h0) (lModel_when h0) ((lModel_when_L h0)).1 dX8_isComeBy_45 ?_
            refine lv_iload_n hx hb dX8_isComeBy_48 rfl (lv_at hl 3 rfl) ?_
            refine nc_ald cx hw (by decide) ((lModel_when_L h0)).1 ij6 ej6 (((lModel_when_L h0)).2 j6 lj6).1 (((lModel_when_L h0)).2 j6 lj6).2 dX8_isComeBy_49 ?_
            refine lv_iload hx hb dX8_isComeBy_50 (lv_at hl 4 rfl) ?_
            refine nc_ild cx hw (((lModel_when_L h0)).2 j6 lj6).2 ij9 ej9 dX8_isComeBy_52 ?_
            refine lv_bipush (v := (-9)) hx hb dX8_isComeBy_53 (by decide) ?_
            obtain ⟨q12, hq12, hf⟩ := nc_bi hf
            refine nc_callVi cx hw lk_X8_178 (c_X8_mayInMind l h0 mi (mi o 11) x1 a1 (mi (o + 42 + 1 + j6) j9) (-9) q12 hq12) (ci := 8) rfl (lModel_is h0) rfl hl.1 rfl (Nat.le_of_ble_eq_true rfl) ⟨rfl, rfl, Nat.le_of_ble_eq_true rfl, Nat.le_of_ble_eq_true rfl⟩ dX8_isComeBy_55 (fun H locs hw => ?_)
            refine lv_if_eq (tgt := 63) hx hb dX8_isComeBy_58 (by decide) (fun c13 => ?_) (fun c13 => ?_)
            · have hf := nc_ifp hf c13
              obtain ⟨x14, ex14⟩ : ∃ y : Int32, y = x4 + 1 := ⟨_, rfl⟩
              have hf := nc_let_at hf ex14
              refine lv_iinc (v := x14) (lv' := [(4, .int x14), (0, .ref o), (1, .int a1), (2, .int a2), (3, .int x1)]) hx hb dX8_isComeBy_63 hl (k := 4) rfl (by rw [ex14]; rfl) (by decide) rfl (fun ls hl => ?_)
              refine lv_goto (tgt := 13) hx hb dX8_isComeBy_66 (by decide) ?_
              exact ihrc5 _ hf _ _ _ hw (lv_sub hl [1, 2, 3, 4, 0] rfl)
            · have hf := nc_ifn hf c13
              refine lv_iconst (v := 1) hx hb dX8_isComeBy_61 (by decide) ?_
              exact nc_rpp hret hf rfl hw dX8_isComeBy_62
abbrev rm_X8_why : Room := { frames := 5, cells := 0, slots := 0, locals := 126 }
set_option maxRecDepth 100000 in
set_option maxHeartbeats 4000000 in
theorem c_X8_why (l : Launch) {G : nc_G} {K : nc_K} {o : Nat} (h0 : nc_LModel G K o) (mi : nc_Mem) (a1 : Int32) (res : nc_Mem × Int32) (hf : f_X8_why mi o a1 = some res) : nc_M l yX8_why cX8_why 2 (some .int) rm_X8_why 0 0 G K K [.ref o, .int a1] mi res.1 (some (.int res.2)) := by
  refine nc_meet_i (by decide) (Nat.le_of_ble_eq_true rfl) ?_
  intro p e s m args below meth c Q H locs ls cx hret hw hl
  have cx : nc_C p s m args c cX8_why 2 RX8 G := cx
  have hl : lv_has ls 2 [(0, .ref o), (1, .int a1)] := hl
  have hx := cx.1
  have hb := cx.2.1
  unfold f_X8_why at hf
  refine lv_aload_n hx hb dX8_why_0 rfl (lv_at hl 0 rfl) ?_
  refine lv_iload_n hx hb dX8_why_1 rfl (lv_at hl 1 rfl) ?_
  obtain ⟨q1, hq1, hf⟩ := nc_bi hf
  refine nc_callVi cx hw lk_X8_145 (c_X8_isThing l h0 mi a1 q1 hq1) (ci := 8) rfl (lModel_is h0) rfl hl.1 rfl (Nat.le_of_ble_eq_true rfl) ⟨rfl, rfl, Nat.le_of_ble_eq_true rfl, Nat.le_of_ble_eq_true rfl⟩ dX8_why_2 (fun H locs hw => ?_)
  refine lv_if_ne (tgt := 14) hx hb dX8_why_5 (by decide) (fun c2 => ?_) (fun c2 => ?_)
  · have hf := nc_ifn hf c2
    refine lv_aload_n hx hb dX8_why_14 rfl (lv_at hl 0 rfl) ?_
    obtain ⟨q3, hq3, hf⟩ := nc_bi hf
    refine nc_callVv cx hw lk_X8_185 (c_X8_findWays l h0 mi  q3 hq3) (ci := 8) rfl (lModel_is h0) rfl hl.1 rfl (Nat.le_of_ble_eq_true rfl) ⟨rfl, rfl, Nat.le_of_ble_eq_true rfl, Nat.le_of_ble_eq_true rfl⟩ dX8_why_15 (fun H locs hw => ?_)
    refine lv_aload_n hx hb dX8_why_18 rfl (lv_at hl 0 rfl) ?_
    refine lv_aload_n hx hb dX8_why_19 rfl (lv_at hl 0 rfl) ?_
    refine gi_X8_148 cx hw (lModel_is h0) dX8_why_20 ?_
    refine lv_iload_n hx hb dX8_why_23 rfl (lv_at hl 1 rfl) ?_
    refine lv_bipush (v := (-9)) hx hb dX8_why_24 (by decide) ?_
    obtain ⟨q4, hq4, hf⟩ := nc_bi hf
    refine nc_callVi cx hw lk_X8_188 (c_X8_soonestBy l h0 q3 (q3 o 11) a1 (-9) q4 hq4) (ci := 8) rfl (lModel_is h0) rfl hl.1 rfl (Nat.le_of_ble_eq_true rfl) ⟨rfl, rfl, Nat.le_of_ble_eq_true rfl, Nat.le_of_ble_eq_true rfl⟩ dX8_why_26 (fun H locs hw => ?_)
    refine lv_bipush (v := (-9)) hx hb dX8_why_29 (by decide) ?_
    refine lv_icmp_eq (tgt := 36) hx hb dX8_why_31 (by decide) (fun c5 => ?_) (fun c5 => ?_)
    · have hf := nc_ifp hf c5
      refine lv_aload_n hx hb dX8_why_36 rfl (lv_at hl 0 rfl) ?_
      refine lv_iload_n hx hb dX8_why_37 rfl (lv_at hl 1 rfl) ?_
      refine lv_aload_n hx hb dX8_why_38 rfl (lv_at hl 0 rfl) ?_
      refine gr_X8_31 cx hw (lModel_is h0) (lModel_thing h0) ((lModel_thing_L h0)).1 dX8_why_39 ?_
      refine lv_iload_n hx hb dX8_why_42 rfl (lv_at hl 1 rfl) ?_
      obtain ⟨j6, ej6, ij6, lj6, hf⟩ := nc_ix hf
      refine nc_ald cx hw (by decide) ((lModel_thing_L h0)).1 ij6 ej6 (((lModel_thing_L h0)).2 j6 lj6).1 (((lModel_thing_L h0)).2 j6 lj6).2 dX8_why_43 ?_
      refine lv_iconst (v := 2) hx hb dX8_why_44 (by decide) ?_
      refine nc_ild cx hw (((lModel_thing_L h0)).2 j6 lj6).2 (nc_lit (j := 2) rfl (by decide) (by decide)) rfl dX8_why_45 ?_
      obtain ⟨q7, hq7, hf⟩ := nc_bi hf
      refine nc_callVi cx hw lk_X8_199 (c_X8_isComeBy l h0 q4.1 a1 (q4.1 (o + 19 + 1 + j6) 2) q7 hq7) (ci := 8) rfl (lModel_is h0) rfl hl.1 rfl (Nat.le_of_ble_eq_true rfl) ⟨rfl, rfl, Nat.le_of_ble_eq_true rfl, Nat.le_of_ble_eq_true rfl⟩ dX8_why_46 (fun H locs hw => ?_)
      refine lv_if_ne (tgt := 56) hx hb dX8_why_49 (by decide) (fun c8 => ?_) (fun c8 => ?_)
      · have hf := nc_ifn hf c8
        refine lv_aload_n hx hb dX8_why_56 rfl (lv_at hl 0 rfl) ?_
        refine lv_iload_n hx hb dX8_why_57 rfl (lv_at hl 1 rfl) ?_
        refine lv_aload_n hx hb dX8_why_58 rfl (lv_at hl 0 rfl) ?_
        refine gr_X8_31 cx hw (lModel_is h0) (lModel_thing h0) ((lModel_thing_L h0)).1 dX8_why_59 ?_
        refine lv_iload_n hx hb dX8_why_62 rfl (lv_at hl 1 rfl) ?_
        refine nc_ald cx hw (by decide) ((lModel_thing_L h0)).1 ij6 ej6 (((lModel_thing_L h0)).2 j6 lj6).1 (((lModel_thing_L h0)).2 j6 lj6).2 dX8_why_63 ?_
        refine lv_iconst (v := 3) hx hb dX8_why_64 (by decide) ?_
        refine nc_ild cx hw (((lModel_thing_L h0)).2 j6 lj6).2 (nc_lit (j := 3) rfl (by decide) (by decide)) rfl dX8_why_65 ?_
        obtain ⟨q9, hq9, hf⟩ := nc_bi hf
        refine nc_callVi cx hw lk_X8_199 (c_X8_isComeBy l h0 q4.1 a1 (q4.1 (o + 19 + 1 + j6) 3) q9 hq9) (ci := 8) rfl (lModel_is h0) rfl hl.1 rfl (Nat.le_of_ble_eq_true rfl) ⟨rfl, rfl, Nat.le_of_ble_eq_true rfl, Nat.le_of_ble_eq_true rfl⟩ dX8_why_66 (fun H locs hw => ?_)
        refine lv_if_ne (tgt := 76) hx hb dX8_why_69 (by decide) (fun c10 => ?_) (fun c10 => ?_)
        · have hf := nc_ifn hf c10
          refine lv_iconst (v := 4) hx hb dX8_why_76 (by decide) ?_
          exact nc_rpm hret hf rfl hw dX8_why_77
        · have hf := nc_ifp hf c10
          refine lv_iconst (v := 2) hx hb dX8_why_72 (by decide) ?_
          refine lv_goto (tgt := 77) hx hb dX8_why_73 (by decide) ?_
          exact nc_rpm hret hf rfl hw dX8_why_77
      · have hf := nc_ifp hf c8
        refine lv_iconst (v := 1) hx hb dX8_why_52 (by decide) ?_
        refine lv_goto (tgt := 77) hx hb dX8_why_53 (by decide) ?_
        exact nc_rpm hret hf rfl hw dX8_why_77
    · have hf := nc_ifn hf c5
      refine lv_iconst (v := 0) hx hb dX8_why_34 (by decide) ?_
      exact nc_rpm hret hf rfl hw dX8_why_35
  · have hf := nc_ifp hf c2
    refine lv_aload_n hx hb dX8_why_8 rfl (lv_at hl 0 rfl) ?_
    refine lv_iconst (v := (-1)) hx hb dX8_why_9 (by decide) ?_
    obtain ⟨q11, hq11, hf⟩ := nc_bi hf
    refine nc_callVi cx hw lk_X8_71 (c_X8_refuse l h0 mi (-1) q11 hq11) (ci := 8) rfl (lModel_is h0) rfl hl.1 rfl (Nat.le_of_ble_eq_true rfl) ⟨rfl, rfl, Nat.le_of_ble_eq_true rfl, Nat.le_of_ble_eq_true rfl⟩ dX8_why_10 (fun H locs hw => ?_)
    exact nc_rpm hret hf rfl hw dX8_why_13
abbrev rm_X8_roundOf : Room := { frames := 3, cells := 0, slots := 0, locals := 73 }
set_option maxRecDepth 100000 in
set_option maxHeartbeats 4000000 in
theorem c_X8_roundOf (l : Launch) {G : nc_G} {K : nc_K} {o : Nat} (h0 : nc_LModel G K o) (mi : nc_Mem) (a1 a2 : Int32) (res : Int32) (hf : f_X8_roundOf mi o a1 a2 = some res) : nc_M l yX8_roundOf cX8_roundOf 9 (some .int) rm_X8_roundOf 0 0 G K K [.ref o, .int a1, .int a2] mi mi (some (.int res)) := by
  refine nc_meet_i (by decide) (Nat.le_of_ble_eq_true rfl) ?_
  intro p e s m args below meth c Q H locs ls cx hret hw hl
  have cx : nc_C p s m args c cX8_roundOf 9 RX8 G := cx
  have hl : lv_has ls 9 [(0, .ref o), (1, .int a1), (2, .int a2)] := hl
  have hx := cx.1
  have hb := cx.2.1
  unfold f_X8_roundOf at hf
  refine lv_aload_n hx hb dX8_roundOf_0 rfl (lv_at hl 0 rfl) ?_
  refine gr_X8_28 cx hw (lModel_is h0) (lModel_person h0) ((lModel_person_L h0)).1 dX8_roundOf_1 ?_
  refine lv_iload_n hx hb dX8_roundOf_4 rfl (lv_at hl 1 rfl) ?_
  obtain ⟨j1, ej1, ij1, lj1, hf⟩ := nc_ix hf
  refine nc_ald cx hw (by decide) ((lModel_person_L h0)).1 ij1 ej1 (((lModel_person_L h0)).2 j1 lj1).1 (((lModel_person_L h0)).2 j1 lj1).2 dX8_roundOf_5 ?_
  refine lv_astore_n (lv' := [(3, .ref (o + 12 + 1 + j1)), (0, .ref o), (1, .int a1), (2, .int a2)]) hx hb dX8_roundOf_6 rfl hl (by decide) rfl (fun ls hl => ?_)
  refine lv_aload_n hx hb dX8_roundOf_7 rfl (lv_at hl 1 rfl) ?_
  refine gr_X8_31 cx hw (lModel_is h0) (lModel_thing h0) ((lModel_thing_L h0)).1 dX8_roundOf_8 ?_
  refine lv_iload_n hx hb dX8_roundOf_11 rfl (lv_at hl 3 rfl) ?_
  obtain ⟨j2, ej2, ij2, lj2, hf⟩ := nc_ix hf
  refine nc_ald cx hw (by decide) ((lModel_thing_L h0)).1 ij2 ej2 (((lModel_thing_L h0)).2 j2 lj2).1 (((lModel_thing_L h0)).2 j2 lj2).2 dX8_roundOf_12 ?_
  refine lv_astore (lv' := [(4, .ref (o + 19 + 1 + j2)), (3, .ref (o + 12 + 1 + j1)), (0, .ref o), (1, .int a1), (2, .int a2)]) hx hb dX8_roundOf_13 hl (by decide) rfl (fun ls hl => ?_)
  refine lv_aload_n hx hb dX8_roundOf_15 rfl (lv_at hl 2 rfl) ?_
  refine gr_X8_37 cx hw (lModel_is h0) (lModel_far h0) ((lModel_far_L h0)).1 dX8_roundOf_16 ?_
  refine lv_aload_n hx hb dX8_roundOf_19 rfl (lv_at hl 1 rfl) ?_
  refine lv_iconst (v := 0) hx hb dX8_roundOf_20 (by decide) ?_
  refine nc_ild cx hw (((lModel_person_L h0)).2 j1 lj1).2 (nc_lit (j := 0) rfl (by decide) (by decide)) rfl dX8_roundOf_21 ?_
  obtain ⟨j3, ej3, ij3, lj3, hf⟩ := nc_ix hf
  refine nc_ald cx hw (by decide) ((lModel_far_L h0)).1 ij3 ej3 (((lModel_far_L h0)).2 j3 lj3).1 (((lModel_far_L h0)).2 j3 lj3).2 dX8_roundOf_22 ?_
  refine lv_aload hx hb dX8_roundOf_23 (lv_at hl 0 rfl) ?_
  refine lv_iconst (v := 2) hx hb dX8_roundOf_25 (by decide) ?_
  refine nc_ild cx hw (((lModel_thing_L h0)).2 j2 lj2).2 (nc_lit (j := 2) rfl (by decide) (by decide)) rfl dX8_roundOf_26 ?_
  obtain ⟨j4, ej4, ij4, lj4, hf⟩ := nc_ix hf
  refine nc_ild cx hw (((lModel_far_L h0)).2 j3 lj3).2 ij4 ej4 dX8_roundOf_27 ?_
  refine lv_topi (fun x5 ex5 => ?_)
  have hf := nc_let_at hf ex5
  refine lv_istore (lv' := [(5, .int x5), (4, .ref (o + 19 + 1 + j2)), (3, .ref (o + 12 + 1 + j1)), (0, .ref o), (1, .int a1), (2, .int a2)]) hx hb dX8_roundOf_28 hl (by decide) rfl (fun ls hl => ?_)
  refine lv_aload_n hx hb dX8_roundOf_30 rfl (lv_at hl 3 rfl) ?_
  refine gr_X8_37 cx hw (lModel_is h0) (lModel_far h0) ((lModel_far_L h0)).1 dX8_roundOf_31 ?_
  refine lv_aload hx hb dX8_roundOf_34 (lv_at hl 1 rfl) ?_
  refine lv_iconst (v := 2) hx hb dX8_roundOf_36 (by decide) ?_
  refine nc_ild cx hw (((lModel_thing_L h0)).2 j2 lj2).2 (nc_lit (j := 2) rfl (by decide) (by decide)) rfl dX8_roundOf_37 ?_
  refine nc_ald cx hw (by decide) ((lModel_far_L h0)).1 ij4 ej4 (((lModel_far_L h0)).2 j4 lj4).1 (((lModel_far_L h0)).2 j4 lj4).2 dX8_roundOf_38 ?_
  refine lv_aload hx hb dX8_roundOf_39 (lv_at hl 1 rfl) ?_
  refine lv_iconst (v := 3) hx hb dX8_roundOf_41 (by decide) ?_
  refine nc_ild cx hw (((lModel_thing_L h0)).2 j2 lj2).2 (nc_lit (j := 3) rfl (by decide) (by decide)) rfl dX8_roundOf_42 ?_
  obtain ⟨j6, ej6, ij6, lj6, hf⟩ := nc_ix hf
  refine nc_ild cx hw (((lModel_far_L h0)).2 j4 lj4).2 ij6 ej6 dX8_roundOf_43 ?_
  refine lv_topi (fun x7 ex7 => ?_)
  have hf := nc_let_at hf ex7
  refine lv_istore (lv' := [(6, .int x7), (5, .int x5), (4, .ref (o + 19 + 1 + j2)), (3, .ref (o + 12 + 1 + j1)), (0, .ref o), (1, .int a1), (2, .int a2)]) hx hb dX8_roundOf_44 hl (by decide) rfl (fun ls hl => ?_)
  refine lv_aload_n hx hb dX8_roundOf_46 rfl (lv_at hl 4 rfl) ?_
  refine gr_X8_37 cx hw (lModel_is h0) (lModel_far h0) ((lModel_far_L h0)).1 dX8_roundOf_47 ?_
  refine lv_aload hx hb dX8_roundOf_50 (lv_at hl 2 rfl) ?_
  refine lv_iconst (v := 3) hx hb dX8_roundOf_52 (by decide) ?_
  refine nc_ild cx hw (((lModel_thing_L h0)).2 j2 lj2).2 (nc_lit (j := 3) rfl (by decide) (by decide)) rfl dX8_roundOf_53 ?_
  refine nc_ald cx hw (by decide) ((lModel_far_L h0)).1 ij6 ej6 (((lModel_far_L h0)).2 j6 lj6).1 (((lModel_far_L h0)).2 j6 lj6).2 dX8_roundOf_54 ?_
  refine lv_aload_n hx hb dX8_roundOf_55 rfl (lv_at hl 3 rfl) ?_
  refine lv_iconst (v := 1) hx hb dX8_roundOf_56 (by decide) ?_
  refine nc_ild cx hw (((lModel_person_L h0)).2 j1 lj1).2 (nc_lit (j := 1) rfl (by decide) (by decide)) rfl dX8_roundOf_57 ?_
  obtain ⟨j8, ej8, ij8, lj8, hf⟩ := nc_ix hf
  refine nc_ild cx hw (((lModel_far_L h0)).2 j6 lj6).2 ij8 ej8 dX8_roundOf_58 ?_
  refine lv_topi (fun x9 ex9 => ?_)
  have hf := nc_let_at hf ex9
  refine lv_istore (lv' := [(7, .int x9), (6, .int x7), (5, .int x5), (4, .ref (o + 19 + 1 + j2)), (3, .ref (o + 12 + 1 + j1)), (0, .ref o), (1, .int a1), (2, .int a2)]) hx hb dX8_roundOf_59 hl (by decide) rfl (fun ls hl => ?_)
  refine lv_iload hx hb dX8_roundOf_61 (lv_at hl 2 rfl) ?_
  refine nc_ldc (v := 100000) cx kc_X8_138 dX8_roundOf_63 ?_
  refine lv_icmp_ge (tgt := 82) hx hb dX8_roundOf_65 (by decide) (fun c10 => ?_) (fun c10 => ?_)
  · have hf := nc_ifp hf c10
    refine lv_bipush (v := (-9)) hx hb dX8_roundOf_82 (by decide) ?_
    exact nc_rpp hret hf rfl hw dX8_roundOf_84
  · have hf := nc_ifn hf c10
    refine lv_iload hx hb dX8_roundOf_68 (lv_at hl 1 rfl) ?_
    refine nc_ldc (v := 100000) cx kc_X8_138 dX8_roundOf_70 ?_
    refine lv_icmp_ge (tgt := 82) hx hb dX8_roundOf_72 (by decide) (fun c11 => ?_) (fun c11 => ?_)
    · have hf := nc_ifp hf c11
      refine lv_bipush (v := (-9)) hx hb dX8_roundOf_82 (by decide) ?_
      exact nc_rpp hret hf rfl hw dX8_roundOf_84
    · have hf := nc_ifn hf c11
      refine lv_iload hx hb dX8_roundOf_75 (lv_at hl 0 rfl) ?_
      refine nc_ldc (v := 100000) cx kc_X8_138 dX8_roundOf_77 ?_
      refine lv_icmp_lt (tgt := 85) hx hb dX8_roundOf_79 (by decide) (fun c12 => ?_) (fun c12 => ?_)
      · have hf := nc_ifp hf c12
        refine lv_aload_n hx hb dX8_roundOf_85 rfl (lv_at hl 4 rfl) ?_
        refine lv_iconst (v := 2) hx hb dX8_roundOf_86 (by decide) ?_
        refine nc_ild cx hw (((lModel_person_L h0)).2 j1 lj1).2 (nc_lit (j := 2) rfl (by decide) (by decide)) rfl dX8_roundOf_87 ?_
        refine lv_iload hx hb dX8_roundOf_88 (lv_at hl 2 rfl) ?_
        refine lv_iadd hx hb dX8_roundOf_90 ?_
        refine lv_topi (fun x13 ex13 => ?_)
        have hf := nc_let_at hf ex13
        refine lv_istore (lv' := [(8, .int x13), (7, .int x9), (6, .int x7), (5, .int x5), (4, .ref (o + 19 + 1 + j2)), (3, .ref (o + 12 + 1 + j1)), (0, .ref o), (1, .int a1), (2, .int a2)]) hx hb dX8_roundOf_91 hl (by decide) rfl (fun ls hl => ?_)
        refine lv_aload_n hx hb dX8_roundOf_93 rfl (lv_at hl 6 rfl) ?_
        refine lv_aload_n hx hb dX8_roundOf_94 rfl (lv_at hl 6 rfl) ?_
        refine gi_X8_148 cx hw (lModel_is h0) dX8_roundOf_95 ?_
        refine lv_iload_n hx hb dX8_roundOf_98 rfl (lv_at hl 7 rfl) ?_
        refine lv_iload_n hx hb dX8_roundOf_99 rfl (lv_at hl 8 rfl) ?_
        refine lv_iload hx hb dX8_roundOf_100 (lv_at hl 0 rfl) ?_
        refine lv_bipush (v := (-9)) hx hb dX8_roundOf_102 (by decide) ?_
        obtain ⟨q14, hq14, hf⟩ := nc_bi hf
        refine nc_callVi cx hw lk_X8_178 (c_X8_mayInMind l h0 mi (mi o 11) a1 a2 x13 (-9) q14 hq14) (ci := 8) rfl (lModel_is h0) rfl hl.1 rfl (Nat.le_of_ble_eq_true rfl) ⟨rfl, rfl, Nat.le_of_ble_eq_true rfl, Nat.le_of_ble_eq_true rfl⟩ dX8_roundOf_104 (fun H locs hw => ?_)
        refine lv_if_eq (tgt := 130) hx hb dX8_roundOf_107 (by decide) (fun c15 => ?_) (fun c15 => ?_)
        · have hf := nc_ifp hf c15
          refine lv_bipush (v := (-9)) hx hb dX8_roundOf_130 (by decide) ?_
          exact nc_rpp hret hf rfl hw dX8_roundOf_132
        · have hf := nc_ifn hf c15
          refine lv_iload hx hb dX8_roundOf_110 (lv_at hl 0 rfl) ?_
          refine lv_iload hx hb dX8_roundOf_112 (lv_at hl 2 rfl) ?_
          refine lv_iadd hx hb dX8_roundOf_114 ?_
          refine lv_aload hx hb dX8_roundOf_115 (lv_at hl 4 rfl) ?_
          refine lv_iconst (v := 5) hx hb dX8_roundOf_117 (by decide) ?_
          refine nc_ild cx hw (((lModel_thing_L h0)).2 j2 lj2).2 (nc_lit (j := 5) rfl (by decide) (by decide)) rfl dX8_roundOf_118 ?_
          refine lv_icmp_gt (tgt := 130) hx hb dX8_roundOf_119 (by decide) (fun c16 => ?_) (fun c16 => ?_)
          · have hf := nc_ifp hf c16
            refine lv_bipush (v := (-9)) hx hb dX8_roundOf_130 (by decide) ?_
            exact nc_rpp hret hf rfl hw dX8_roundOf_132
          · have hf := nc_ifn hf c16
            refine lv_iload hx hb dX8_roundOf_122 (lv_at hl 0 rfl) ?_
            refine lv_iload hx hb dX8_roundOf_124 (lv_at hl 2 rfl) ?_
            refine lv_iadd hx hb dX8_roundOf_126 ?_
            refine lv_goto (tgt := 132) hx hb dX8_roundOf_127 (by decide) ?_
            exact nc_rpp hret hf rfl hw dX8_roundOf_132
      · have hf := nc_ifn hf c12
        refine lv_bipush (v := (-9)) hx hb dX8_roundOf_82 (by decide) ?_
        exact nc_rpp hret hf rfl hw dX8_roundOf_84
abbrev rm_X8_moreOf : Room := { frames := 0, cells := 0, slots := 0, locals := 0 }
set_option maxRecDepth 100000 in
set_option maxHeartbeats 4000000 in
theorem c_X8_moreOf (l : Launch) {G : nc_G} {K : nc_K} {o : Nat} (h0 : nc_LModel G K o) (mi : nc_Mem) (a1 a2 : Int32) (res : Int32) (hf : f_X8_moreOf mi o a1 a2 = some res) : nc_M l yX8_moreOf cX8_moreOf 5 (some .int) rm_X8_moreOf 0 0 G K K [.ref o, .int a1, .int a2] mi mi (some (.int res)) := by
  refine nc_meet_i (by decide) (Nat.le_of_ble_eq_true rfl) ?_
  intro p e s m args below meth c Q H locs ls cx hret hw hl
  have cx : nc_C p s m args c cX8_moreOf 5 RX8 G := cx
  have hl : lv_has ls 5 [(0, .ref o), (1, .int a1), (2, .int a2)] := hl
  have hx := cx.1
  have hb := cx.2.1
  unfold f_X8_moreOf at hf
  refine lv_aload_n hx hb dX8_moreOf_0 rfl (lv_at hl 0 rfl) ?_
  refine gr_X8_28 cx hw (lModel_is h0) (lModel_person h0) ((lModel_person_L h0)).1 dX8_moreOf_1 ?_
  refine lv_iload_n hx hb dX8_moreOf_4 rfl (lv_at hl 1 rfl) ?_
  obtain ⟨j1, ej1, ij1, lj1, hf⟩ := nc_ix hf
  refine nc_ald cx hw (by decide) ((lModel_person_L h0)).1 ij1 ej1 (((lModel_person_L h0)).2 j1 lj1).1 (((lModel_person_L h0)).2 j1 lj1).2 dX8_moreOf_5 ?_
  refine lv_astore_n (lv' := [(3, .ref (o + 12 + 1 + j1)), (0, .ref o), (1, .int a1), (2, .int a2)]) hx hb dX8_moreOf_6 rfl hl (by decide) rfl (fun ls hl => ?_)
  refine lv_aload_n hx hb dX8_moreOf_7 rfl (lv_at hl 1 rfl) ?_
  refine gr_X8_31 cx hw (lModel_is h0) (lModel_thing h0) ((lModel_thing_L h0)).1 dX8_moreOf_8 ?_
  refine lv_iload_n hx hb dX8_moreOf_11 rfl (lv_at hl 3 rfl) ?_
  obtain ⟨j2, ej2, ij2, lj2, hf⟩ := nc_ix hf
  refine nc_ald cx hw (by decide) ((lModel_thing_L h0)).1 ij2 ej2 (((lModel_thing_L h0)).2 j2 lj2).1 (((lModel_thing_L h0)).2 j2 lj2).2 dX8_moreOf_12 ?_
  refine lv_astore (lv' := [(4, .ref (o + 19 + 1 + j2)), (3, .ref (o + 12 + 1 + j1)), (0, .ref o), (1, .int a1), (2, .int a2)]) hx hb dX8_moreOf_13 hl (by decide) rfl (fun ls hl => ?_)
  refine lv_aload_n hx hb dX8_moreOf_15 rfl (lv_at hl 2 rfl) ?_
  refine gr_X8_37 cx hw (lModel_is h0) (lModel_far h0) ((lModel_far_L h0)).1 dX8_moreOf_16 ?_
  refine lv_aload_n hx hb dX8_moreOf_19 rfl (lv_at hl 1 rfl) ?_
  refine lv_iconst (v := 0) hx hb dX8_moreOf_20 (by decide) ?_
  refine nc_ild cx hw (((lModel_person_L h0)).2 j1 lj1).2 (nc_lit (j := 0) rfl (by decide) (by decide)) rfl dX8_moreOf_21 ?_
  obtain ⟨j3, ej3, ij3, lj3, hf⟩ := nc_ix hf
  refine nc_ald cx hw (by decide) ((lModel_far_L h0)).1 ij3 ej3 (((lModel_far_L h0)).2 j3 lj3).1 (((lModel_far_L h0)).2 j3 lj3).2 dX8_moreOf_22 ?_
  refine lv_aload hx hb dX8_moreOf_23 (lv_at hl 0 rfl) ?_
  refine lv_iconst (v := 2) hx hb dX8_moreOf_25 (by decide) ?_
  refine nc_ild cx hw (((lModel_thing_L h0)).2 j2 lj2).2 (nc_lit (j := 2) rfl (by decide) (by decide)) rfl dX8_moreOf_26 ?_
  obtain ⟨j4, ej4, ij4, lj4, hf⟩ := nc_ix hf
  refine nc_ild cx hw (((lModel_far_L h0)).2 j3 lj3).2 ij4 ej4 dX8_moreOf_27 ?_
  refine lv_aload_n hx hb dX8_moreOf_28 rfl (lv_at hl 2 rfl) ?_
  refine gr_X8_37 cx hw (lModel_is h0) (lModel_far h0) ((lModel_far_L h0)).1 dX8_moreOf_29 ?_
  refine lv_aload hx hb dX8_moreOf_32 (lv_at hl 0 rfl) ?_
  refine lv_iconst (v := 2) hx hb dX8_moreOf_34 (by decide) ?_
  refine nc_ild cx hw (((lModel_thing_L h0)).2 j2 lj2).2 (nc_lit (j := 2) rfl (by decide) (by decide)) rfl dX8_moreOf_35 ?_
  refine nc_ald cx hw (by decide) ((lModel_far_L h0)).1 ij4 ej4 (((lModel_far_L h0)).2 j4 lj4).1 (((lModel_far_L h0)).2 j4 lj4).2 dX8_moreOf_36 ?_
  refine lv_aload hx hb dX8_moreOf_37 (lv_at hl 0 rfl) ?_
  refine lv_iconst (v := 3) hx hb dX8_moreOf_39 (by decide) ?_
  refine nc_ild cx hw (((lModel_thing_L h0)).2 j2 lj2).2 (nc_lit (j := 3) rfl (by decide) (by decide)) rfl dX8_moreOf_40 ?_
  obtain ⟨j5, ej5, ij5, lj5, hf⟩ := nc_ix hf
  refine nc_ild cx hw (((lModel_far_L h0)).2 j4 lj4).2 ij5 ej5 dX8_moreOf_41 ?_
  refine lv_iadd hx hb dX8_moreOf_42 ?_
  refine lv_aload_n hx hb dX8_moreOf_43 rfl (lv_at hl 2 rfl) ?_
  refine gr_X8_37 cx hw (lModel_is h0) (lModel_far h0) ((lModel_far_L h0)).1 dX8_moreOf_44 ?_
  refine lv_aload hx hb dX8_moreOf_47 (lv_at hl 0 rfl) ?_
  refine lv_iconst (v := 3) hx hb dX8_moreOf_49 (by decide) ?_
  refine nc_ild cx hw (((lModel_thing_L h0)).2 j2 lj2).2 (nc_lit (j := 3) rfl (by decide) (by decide)) rfl dX8_moreOf_50 ?_
  refine nc_ald cx hw (by decide) ((lModel_far_L h0)).1 ij5 ej5 (((lModel_far_L h0)).2 j5 lj5).1 (((lModel_far_L h0)).2 j5 lj5).2 dX8_moreOf_51 ?_
  refine lv_aload_n hx hb dX8_moreOf_52 rfl (lv_at hl 1 rfl) ?_
  refine lv_iconst (v := 1) hx hb dX8_moreOf_53 (by decide) ?_
  refine nc_ild cx hw (((lModel_person_L h0)).2 j1 lj1).2 (nc_lit (j := 1) rfl (by decide) (by decide)) rfl dX8_moreOf_54 ?_
  obtain ⟨j6, ej6, ij6, lj6, hf⟩ := nc_ix hf
  refine nc_ild cx hw (((lModel_far_L h0)).2 j5 lj5).2 ij6 ej6 dX8_moreOf_55 ?_
  refine lv_iadd hx hb dX8_moreOf_56 ?_
  refine lv_aload_n hx hb dX8_moreOf_57 rfl (lv_at hl 2 rfl) ?_
  refine gr_X8_37 cx hw (lModel_is h0) (lModel_far h0) ((lModel_far_L h0)).1 dX8_moreOf_58 ?_
  refine lv_aload_n hx hb dX8_moreOf_61 rfl (lv_at hl 1 rfl) ?_
  refine lv_iconst (v := 0) hx hb dX8_moreOf_62 (by decide) ?_
  refine nc_ild cx hw (((lModel_person_L h0)).2 j1 lj1).2 (nc_lit (j := 0) rfl (by decide) (by decide)) rfl dX8_moreOf_63 ?_
  refine nc_ald cx hw (by decide) ((lModel_far_L h0)).1 ij3 ej3 (((lModel_far_L h0)).2 j3 lj3).1 (((lModel_far_L h0)).2 j3 lj3).2 dX8_moreOf_64 ?_
  refine lv_aload_n hx hb dX8_moreOf_65 rfl (lv_at hl 1 rfl) ?_
  refine lv_iconst (v := 1) hx hb dX8_moreOf_66 (by decide) ?_
  refine nc_ild cx hw (((lModel_person_L h0)).2 j1 lj1).2 (nc_lit (j := 1) rfl (by decide) (by decide)) rfl dX8_moreOf_67 ?_
  refine nc_ild cx hw (((lModel_far_L h0)).2 j3 lj3).2 ij6 ej6 dX8_moreOf_68 ?_
  refine lv_isub hx hb dX8_moreOf_69 ?_
  exact nc_rpp hret hf rfl hw dX8_moreOf_70
abbrev rm_X8_round : Room := { frames := 4, cells := 0, slots := 0, locals := 101 }
set_option maxRecDepth 100000 in
set_option maxHeartbeats 4000000 in
theorem c_X8_round (l : Launch) {G : nc_G} {K : nc_K} {o : Nat} (h0 : nc_LModel G K o) (mi : nc_Mem) (a1 a2 a3 : Int32) (res : nc_Mem × Int32) (hf : f_X8_round mi o a1 a2 a3 = some res) : nc_M l yX8_round cX8_round 5 (some .int) rm_X8_round 0 0 G K K [.ref o, .int a1, .int a2, .int a3] mi res.1 (some (.int res.2)) := by
  refine nc_meet_i (by decide) (Nat.le_of_ble_eq_true rfl) ?_
  intro p e s m args below meth c Q H locs ls cx hret hw hl
  have cx : nc_C p s m args c cX8_round 5 RX8 G := cx
  have hl : lv_has ls 5 [(0, .ref o), (1, .int a1), (2, .int a2), (3, .int a3)] := hl
  have hx := cx.1
  have hb := cx.2.1
  unfold f_X8_round at hf
  refine lv_aload_n hx hb dX8_round_0 rfl (lv_at hl 0 rfl) ?_
  refine lv_iload_n hx hb dX8_round_1 rfl (lv_at hl 1 rfl) ?_
  obtain ⟨q1, hq1, hf⟩ := nc_bi hf
  refine nc_callVi cx hw lk_X8_108 (c_X8_isPerson l h0 mi a1 q1 hq1) (ci := 8) rfl (lModel_is h0) rfl hl.1 rfl (Nat.le_of_ble_eq_true rfl) ⟨rfl, rfl, Nat.le_of_ble_eq_true rfl, Nat.le_of_ble_eq_true rfl⟩ dX8_round_2 (fun H locs hw => ?_)
  obtain ⟨k2, ek2, hf⟩ := nc_jn_of hf
  have hk2 : k2 = some res → ∀ (H : Heap) (locs : List Loc) (ls : Array Slot), nc_W G K mi H locs → lv_has ls 5 [(0, .ref o)] → W p l e rm_X8_round s m args below meth c H locs 0 0 Q (F0 m 16 ls []) := by
    intro hf H locs ls hw hl
    have hf := (ek2).symm.trans hf
    refine lv_aload_n hx hb dX8_round_16 rfl (lv_at hl 0 rfl) ?_
    refine lv_iconst (v := (-1)) hx hb dX8_round_17 (by decide) ?_
    obtain ⟨q3, hq3, hf⟩ := nc_bi hf
    refine nc_callVi cx hw lk_X8_71 (c_X8_refuse l h0 mi (-1) q3 hq3) (ci := 8) rfl (lModel_is h0) rfl hl.1 rfl (Nat.le_of_ble_eq_true rfl) ⟨rfl, rfl, Nat.le_of_ble_eq_true rfl, Nat.le_of_ble_eq_true rfl⟩ dX8_round_18 (fun H locs hw => ?_)
    exact nc_rpm hret hf rfl hw dX8_round_21
  refine lv_if_eq (tgt := 16) hx hb dX8_round_5 (by decide) (fun c4 => ?_) (fun c4 => ?_)
  · have hf := nc_ifp hf c4
    exact hk2 hf _ _ _ hw (lv_sub hl [0] rfl)
  · have hf := nc_ifn hf c4
    refine lv_aload_n hx hb dX8_round_8 rfl (lv_at hl 0 rfl) ?_
    refine lv_iload_n hx hb dX8_round_9 rfl (lv_at hl 2 rfl) ?_
    obtain ⟨q5, hq5, hf⟩ := nc_bi hf
    refine nc_callVi cx hw lk_X8_145 (c_X8_isThing l h0 mi a2 q5 hq5) (ci := 8) rfl (lModel_is h0) rfl hl.1 rfl (Nat.le_of_ble_eq_true rfl) ⟨rfl, rfl, Nat.le_of_ble_eq_true rfl, Nat.le_of_ble_eq_true rfl⟩ dX8_round_10 (fun H locs hw => ?_)
    refine lv_if_ne (tgt := 22) hx hb dX8_round_13 (by decide) (fun c6 => ?_) (fun c6 => ?_)
    · have hf := nc_ifn hf c6
      refine lv_iload_n hx hb dX8_round_22 rfl (lv_at hl 3 rfl) ?_
      refine lv_iconst (v := 0) hx hb dX8_round_23 (by decide) ?_
      refine lv_iconst (v := 1) hx hb dX8_round_24 (by decide) ?_
      refine nc_callSi cx hw lk_X8_61 (c_X8_in l  mi a3 0 1 _ rfl) rfl hl.1 rfl (Nat.le_of_ble_eq_true rfl) ⟨rfl, rfl, Nat.le_of_ble_eq_true rfl, Nat.le_of_ble_eq_true rfl⟩ dX8_round_25 (fun H locs hw => ?_)
      refine lv_if_ne (tgt := 38) hx hb dX8_round_28 (by decide) (fun c7 => ?_) (fun c7 => ?_)
      · have hf := nc_ifn hf c7
        refine lv_aload_n hx hb dX8_round_38 rfl (lv_at hl 0 rfl) ?_
        obtain ⟨q8, hq8, hf⟩ := nc_bi hf
        refine nc_callVv cx hw lk_X8_139 (c_X8_findFar l h0 mi  q8 hq8) (ci := 8) rfl (lModel_is h0) rfl hl.1 rfl (Nat.le_of_ble_eq_true rfl) ⟨rfl, rfl, Nat.le_of_ble_eq_true rfl, Nat.le_of_ble_eq_true rfl⟩ dX8_round_39 (fun H locs hw => ?_)
        refine lv_aload_n hx hb dX8_round_42 rfl (lv_at hl 0 rfl) ?_
        refine lv_iload_n hx hb dX8_round_43 rfl (lv_at hl 1 rfl) ?_
        refine lv_iload_n hx hb dX8_round_44 rfl (lv_at hl 2 rfl) ?_
        obtain ⟨q9, hq9, hf⟩ := nc_bi hf
        refine nc_callVi cx hw lk_X8_202 (c_X8_roundOf l h0 q8 a1 a2 q9 hq9) (ci := 8) rfl (lModel_is h0) rfl hl.1 rfl (Nat.le_of_ble_eq_true rfl) ⟨rfl, rfl, Nat.le_of_ble_eq_true rfl, Nat.le_of_ble_eq_true rfl⟩ dX8_round_45 (fun H locs hw => ?_)
        refine lv_istore (lv' := [(4, .int q9), (0, .ref o), (1, .int a1), (2, .int a2), (3, .int a3)]) hx hb dX8_round_48 hl (by decide) rfl (fun ls hl => ?_)
        refine lv_iload hx hb dX8_round_50 (lv_at hl 0 rfl) ?_
        refine lv_bipush (v := (-9)) hx hb dX8_round_52 (by decide) ?_
        refine lv_icmp_eq (tgt := 61) hx hb dX8_round_54 (by decide) (fun c10 => ?_) (fun c10 => ?_)
        · have hf := nc_ifp hf c10
          refine lv_iload hx hb dX8_round_61 (lv_at hl 0 rfl) ?_
          refine lv_goto (tgt := 72) hx hb dX8_round_63 (by decide) ?_
          exact nc_rpm hret hf rfl hw dX8_round_72
        · have hf := nc_ifn hf c10
          refine lv_iload_n hx hb dX8_round_57 rfl (lv_at hl 4 rfl) ?_
          refine lv_if_ne (tgt := 66) hx hb dX8_round_58 (by decide) (fun c11 => ?_) (fun c11 => ?_)
          · have hf := nc_ifn hf c11
            refine lv_aload_n hx hb dX8_round_66 rfl (lv_at hl 1 rfl) ?_
            refine lv_iload_n hx hb dX8_round_67 rfl (lv_at hl 2 rfl) ?_
            refine lv_iload_n hx hb dX8_round_68 rfl (lv_at hl 3 rfl) ?_
            obtain ⟨q12, hq12, hf⟩ := nc_bi hf
            refine nc_callVi cx hw lk_X8_205 (c_X8_moreOf l h0 q8 a1 a2 q12 hq12) (ci := 8) rfl (lModel_is h0) rfl hl.1 rfl (Nat.le_of_ble_eq_true rfl) ⟨rfl, rfl, Nat.le_of_ble_eq_true rfl, Nat.le_of_ble_eq_true rfl⟩ dX8_round_69 (fun H locs hw => ?_)
            exact nc_rpm hret hf rfl hw dX8_round_72
          · have hf := nc_ifp hf c11
            refine lv_iload hx hb dX8_round_61 (lv_at hl 0 rfl) ?_
            refine lv_goto (tgt := 72) hx hb dX8_round_63 (by decide) ?_
            exact nc_rpm hret hf rfl hw dX8_round_72
      · have hf := nc_ifp hf c7
        refine lv_aload_n hx hb dX8_round_31 rfl (lv_at hl 0 rfl) ?_
        refine lv_bipush (v := (-2)) hx hb dX8_round_32 (by decide) ?_
        obtain ⟨q13, hq13, hf⟩ := nc_bi hf
        refine nc_callVi cx hw lk_X8_71 (c_X8_refuse l h0 mi (-2) q13 hq13) (ci := 8) rfl (lModel_is h0) rfl hl.1 rfl (Nat.le_of_ble_eq_true rfl) ⟨rfl, rfl, Nat.le_of_ble_eq_true rfl, Nat.le_of_ble_eq_true rfl⟩ dX8_round_34 (fun H locs hw => ?_)
        exact nc_rpm hret hf rfl hw dX8_round_37
    · have hf := nc_ifp hf c6
      exact hk2 hf _ _ _ hw (lv_sub hl [0] rfl)
abbrev rm_X8_seek (n : Nat) : Room := { frames := 10 + n, cells := 0, slots := 0, locals := 200 + 30 * n }
set_option maxRecDepth 100000 in
set_option maxHeartbeats 4000000 in
theorem c_X8_seek (l : Launch) {G : nc_G} {K : nc_K} {o : Nat} (h0 : nc_LModel G K o) : ∀ (n : Nat) (mi : nc_Mem) (a1 : Int32) (a2 : Int32) (a3 : Int32) (a4 : Int32) (res : nc_Mem), f_X8_seek n o mi a1 a2 a3 a4 = some res → nc_M l yX8_seek cX8_seek 6 none (rm_X8_seek n) 0 0 G K K [.ref o, .int a1, .int a2, .int a3, .int a4] mi res none := by
  intro n
  induction n with
  | zero => intro mi a1 a2 a3 a4 res hf; exact absurd hf (by intro q; cases q)
  | succ n ihn =>
    intro mi a1 a2 a3 a4 res hf
    have hf : B_X8_seek o (f_X8_seek n o) mi a1 a2 a3 a4 = some res := hf
    generalize f_X8_seek n o = rc at hf ihn
    refine nc_meet_v (by decide) (Nat.le_of_ble_eq_true rfl) ?_
    intro p e s m args below meth c Q H locs ls cx hret hw hl
    have cx : nc_C p s m args c cX8_seek 6 RX8 G := cx
    have hl : lv_has ls 6 [(0, .ref o), (1, .int a1), (2, .int a2), (3, .int a3), (4, .int a4)] := hl
    have hx := cx.1
    have hb := cx.2.1
    unfold B_X8_seek at hf
    refine lv_iload_n hx hb dX8_seek_0 rfl (lv_at hl 1 rfl) ?_
    refine lv_aload_n hx hb dX8_seek_1 rfl (lv_at hl 0 rfl) ?_
    refine gi_X8_65 cx hw (lModel_is h0) dX8_seek_2 ?_
    refine lv_icmp_ne (tgt := 54) hx hb dX8_seek_5 (by decide) (fun c1 => ?_) (fun c1 => ?_)
    · have hf := nc_ifn hf c1
      refine lv_aload_n hx hb dX8_seek_54 rfl (lv_at hl 0 rfl) ?_
      refine gr_X8_55 cx hw (lModel_is h0) (lModel_has h0) (lModel_has_L h0) dX8_seek_55 ?_
      refine lv_iload_n hx hb dX8_seek_58 rfl (lv_at hl 1 rfl) ?_
      refine lv_bipush (v := (-9)) hx hb dX8_seek_59 (by decide) ?_
      obtain ⟨j2, ej2, ij2, lj2, hf⟩ := nc_ix hf
      refine nc_ist cx hw (lModel_has_L h0) ij2 ej2 dX8_seek_61 (fun mi3 H locs emi3 hw => ?_)
      have hf := nc_let_at hf emi3
      refine lv_aload_n hx hb dX8_seek_62 rfl (lv_at hl 0 rfl) ?_
      refine lv_iload_n hx hb dX8_seek_63 rfl (lv_at hl 1 rfl) ?_
      refine lv_iconst (v := 1) hx hb dX8_seek_64 (by decide) ?_
      refine lv_iadd hx hb dX8_seek_65 ?_
      refine lv_iload_n hx hb dX8_seek_66 rfl (lv_at hl 2 rfl) ?_
      refine lv_iload_n hx hb dX8_seek_67 rfl (lv_at hl 3 rfl) ?_
      refine lv_iload hx hb dX8_seek_68 (lv_at hl 4 rfl) ?_
      obtain ⟨q4, hq4, hf⟩ := nc_bi hf
      refine nc_callVv cx hw lk_X8_211 (ihn mi3 (a1 + 1) a2 a3 a4 q4 hq4) (ci := 8) rfl (lModel_is h0) rfl hl.1 rfl (Nat.le_of_ble_eq_true rfl) ⟨rfl, rfl, by simp [rm_X8_seek]; try omega, by simp [rm_X8_seek]; try omega⟩ dX8_seek_70 (fun H locs hw => ?_)
      refine lv_iconst (v := 0) hx hb dX8_seek_73 (by decide) ?_
      refine lv_istore (lv' := [(5, .int 0), (0, .ref o), (1, .int a1), (2, .int a2), (3, .int a3), (4, .int a4)]) hx hb dX8_seek_74 hl (by decide) rfl (fun ls hl => ?_)
      obtain ⟨k5, ek5, hf⟩ := nc_jn_of hf
      have hk5 : ∀ (mi6 : nc_Mem), k5 mi6 = some res → ∀ (H : Heap) (locs : List Loc) (ls : Array Slot), nc_W G K mi6 H locs → lv_has ls 6 [(0, .ref o), (1, .int a1)] → W p l e (rm_X8_seek (n + 1)) s m args below meth c H locs 0 0 Q (F0 m 161 ls []) := by
        intro mi6 hf H locs ls hw hl
        have hf := ((congrFun ek5 mi6)).symm.trans hf
        refine lv_aload_n hx hb dX8_seek_161 rfl (lv_at hl 0 rfl) ?_
        refine gr_X8_55 cx hw (lModel_is h0) (lModel_has h0) (lModel_has_L h0) dX8_seek_162 ?_
        refine lv_iload_n hx hb dX8_seek_165 rfl (lv_at hl 1 rfl) ?_
        refine lv_bipush (v := (-9)) hx hb dX8_seek_166 (by decide) ?_
        refine nc_ist cx hw (lModel_has_L h0) ij2 ej2 dX8_seek_168 (fun mi7 H locs emi7 hw => ?_)
        have hf := nc_let_at hf emi7
        exact nc_vpm hret hf hw dX8_seek_169
      refine nc_loop_w (P := fun κ : Int32 → nc_Mem → Option (nc_Mem) => ∀ (x8 : Int32) (mi9 : nc_Mem), κ x8 mi9 = some res → ∀ (H : Heap) (locs : List Loc) (ls : Array Slot), nc_W G K mi9 H locs → lv_has ls 6 [(0, .ref o), (1, .int a1), (2, .int a2), (3, .int a3), (4, .int a4), (5, .int x8)] → W p l e (rm_X8_seek (n + 1)) s m args below meth c H locs 0 0 Q (F0 m 76 ls [])) ?_ ?_ 200 _ _ hf _ _ _ hw (lv_sub hl [1, 2, 3, 4, 5, 0] rfl)
      · intro x8 mi9 hf; exact absurd hf (by intro q; cases q)
      · intro rc10 ihrc10 x8 mi9 hf H locs ls hw hl
        unfold B_X8_seek_76 at hf
        refine lv_iload hx hb dX8_seek_76 (lv_at hl 5 rfl) ?_
        refine lv_aload_n hx hb dX8_seek_78 rfl (lv_at hl 0 rfl) ?_
        refine gi_X8_68 cx hw (lModel_is h0) dX8_seek_79 ?_
        refine lv_icmp_ge (tgt := 161) hx hb dX8_seek_82 (by decide) (fun c11 => ?_) (fun c11 => ?_)
        · have hf := nc_ifp hf c11
          exact hk5 _ hf _ _ _ hw (lv_sub hl [0, 1] rfl)
        · have hf := nc_ifn hf c11
          refine lv_iload_n hx hb dX8_seek_85 rfl (lv_at hl 1 rfl) ?_
          refine lv_iload hx hb dX8_seek_86 (lv_at hl 4 rfl) ?_
          refine lv_icmp_eq (tgt := 161) hx hb dX8_seek_88 (by decide) (fun c12 => ?_) (fun c12 => ?_)
          · have hf := nc_ifp hf c12
            exact hk5 _ hf _ _ _ hw (lv_sub hl [0, 1] rfl)
          · have hf := nc_ifn hf c12
            refine lv_iload_n hx hb dX8_seek_91 rfl (lv_at hl 2 rfl) ?_
            refine lv_iload hx hb dX8_seek_92 (lv_at hl 5 rfl) ?_
            refine lv_ishr hx hb dX8_seek_94 ?_
            refine lv_iconst (v := 1) hx hb dX8_seek_95 (by decide) ?_
            refine lv_iand hx hb dX8_seek_96 ?_
            refine lv_if_ne (tgt := 155) hx hb dX8_seek_97 (by decide) (fun c13 => ?_) (fun c13 => ?_)
            · have hf := nc_ifn hf c13
              obtain ⟨x14, ex14⟩ : ∃ y : Int32, y = x8 + 1 := ⟨_, rfl⟩
              have hf := nc_let_at hf ex14
              refine lv_iinc (v := x14) (lv' := [(5, .int x14), (0, .ref o), (1, .int a1), (2, .int a2), (3, .int a3), (4, .int a4)]) hx hb dX8_seek_155 hl (k := 5) rfl (by rw [ex14]; rfl) (by decide) rfl (fun ls hl => ?_)
              refine lv_goto (tgt := 76) hx hb dX8_seek_158 (by decide) ?_
              exact ihrc10 _ _ hf _ _ _ hw (lv_sub hl [1, 2, 3, 4, 5, 0] rfl)
            · have hf := nc_ifp hf c13
              refine lv_aload_n hx hb dX8_seek_100 rfl (lv_at hl 0 rfl) ?_
              refine lv_iload_n hx hb dX8_seek_101 rfl (lv_at hl 1 rfl) ?_
              refine lv_iload hx hb dX8_seek_102 (lv_at hl 5 rfl) ?_
              obtain ⟨q15, hq15, hf⟩ := nc_bi hf
              refine nc_callVi cx hw lk_X8_202 (c_X8_roundOf l h0 mi9 a1 x8 q15 hq15) (ci := 8) rfl (lModel_is h0) rfl hl.1 rfl (Nat.le_of_ble_eq_true rfl) ⟨rfl, rfl, by simp [rm_X8_seek, rm_X8_roundOf]; try omega, by simp [rm_X8_seek, rm_X8_roundOf]; try omega⟩ dX8_seek_104 (fun H locs hw => ?_)
              refine lv_bipush (v := (-9)) hx hb dX8_seek_107 (by decide) ?_
              refine lv_icmp_eq (tgt := 155) hx hb dX8_seek_109 (by decide) (fun c16 => ?_) (fun c16 => ?_)
              · have hf := nc_ifp hf c16
                obtain ⟨x17, ex17⟩ : ∃ y : Int32, y = x8 + 1 := ⟨_, rfl⟩
                have hf := nc_let_at hf ex17
                refine lv_iinc (v := x17) (lv' := [(5, .int x17), (0, .ref o), (1, .int a1), (2, .int a2), (3, .int a3), (4, .int a4)]) hx hb dX8_seek_155 hl (k := 5) rfl (by rw [ex17]; rfl) (by decide) rfl (fun ls hl => ?_)
                refine lv_goto (tgt := 76) hx hb dX8_seek_158 (by decide) ?_
                exact ihrc10 _ _ hf _ _ _ hw (lv_sub hl [1, 2, 3, 4, 5, 0] rfl)
              · have hf := nc_ifn hf c16
                refine lv_aload_n hx hb dX8_seek_112 rfl (lv_at hl 0 rfl) ?_
                refine gr_X8_55 cx hw (lModel_is h0) (lModel_has h0) (lModel_has_L h0) dX8_seek_113 ?_
                refine lv_iload_n hx hb dX8_seek_116 rfl (lv_at hl 1 rfl) ?_
                refine lv_iload hx hb dX8_seek_117 (lv_at hl 5 rfl) ?_
                refine nc_ist cx hw (lModel_has_L h0) ij2 ej2 dX8_seek_119 (fun mi18 H locs emi18 hw => ?_)
                have hf := nc_let_at hf emi18
                refine lv_aload_n hx hb dX8_seek_120 rfl (lv_at hl 0 rfl) ?_
                refine lv_iload_n hx hb dX8_seek_121 rfl (lv_at hl 1 rfl) ?_
                refine lv_iconst (v := 1) hx hb dX8_seek_122 (by decide) ?_
                refine lv_iadd hx hb dX8_seek_123 ?_
                refine lv_iload_n hx hb dX8_seek_124 rfl (lv_at hl 2 rfl) ?_
                refine lv_iconst (v := 1) hx hb dX8_seek_125 (by decide) ?_
                refine lv_iload hx hb dX8_seek_126 (lv_at hl 5 rfl) ?_
                refine lv_ishl hx hb dX8_seek_128 ?_
                refine lv_ior hx hb dX8_seek_129 ?_
                refine lv_iload_n hx hb dX8_seek_130 rfl (lv_at hl 3 rfl) ?_
                refine lv_aload_n hx hb dX8_seek_131 rfl (lv_at hl 0 rfl) ?_
                refine gr_X8_31 cx hw (lModel_is h0) (lModel_thing h0) ((lModel_thing_L h0)).1 dX8_seek_132 ?_
                refine lv_iload hx hb dX8_seek_135 (lv_at hl 5 rfl) ?_
                obtain ⟨j19, ej19, ij19, lj19, hf⟩ := nc_ix hf
                refine nc_ald cx hw (by decide) ((lModel_thing_L h0)).1 ij19 ej19 (((lModel_thing_L h0)).2 j19 lj19).1 (((lModel_thing_L h0)).2 j19 lj19).2 dX8_seek_137 ?_
                refine lv_bipush (v := 6) hx hb dX8_seek_138 (by decide) ?_
                refine nc_ild cx hw (((lModel_thing_L h0)).2 j19 lj19).2 (nc_lit (j := 6) rfl (by decide) (by decide)) rfl dX8_seek_140 ?_
                refine lv_iadd hx hb dX8_seek_141 ?_
                refine lv_aload_n hx hb dX8_seek_142 rfl (lv_at hl 0 rfl) ?_
                refine lv_iload_n hx hb dX8_seek_143 rfl (lv_at hl 1 rfl) ?_
                refine lv_iload hx hb dX8_seek_144 (lv_at hl 5 rfl) ?_
                obtain ⟨q20, hq20, hf⟩ := nc_bi hf
                refine nc_callVi cx hw lk_X8_205 (c_X8_moreOf l h0 mi18 a1 x8 q20 hq20) (ci := 8) rfl (lModel_is h0) rfl hl.1 rfl (Nat.le_of_ble_eq_true rfl) ⟨rfl, rfl, by simp [rm_X8_seek, rm_X8_moreOf]; try omega, by simp [rm_X8_seek, rm_X8_moreOf]; try omega⟩ dX8_seek_146 (fun H locs hw => ?_)
                refine lv_isub hx hb dX8_seek_149 ?_
                refine lv_iload hx hb dX8_seek_150 (lv_at hl 4 rfl) ?_
                obtain ⟨q21, hq21, hf⟩ := nc_bi hf
                refine nc_callVv cx hw lk_X8_211 (ihn mi18 (a1 + 1) (a2 ||| ((1 : Int32) <<< (x8 &&& 31))) ((a3 + (mi18 (o + 19 + 1 + j19) 6)) - q20) a4 q21 hq21) (ci := 8) rfl (lModel_is h0) rfl hl.1 rfl (Nat.le_of_ble_eq_true rfl) ⟨rfl, rfl, by simp [rm_X8_seek]; try omega, by simp [rm_X8_seek]; try omega⟩ dX8_seek_152 (fun H locs hw => ?_)
                obtain ⟨x22, ex22⟩ : ∃ y : Int32, y = x8 + 1 := ⟨_, rfl⟩
                have hf := nc_let_at hf ex22
                refine lv_iinc (v := x22) (lv' := [(5, .int x22), (0, .ref o), (1, .int a1), (2, .int a2), (3, .int a3), (4, .int a4)]) hx hb dX8_seek_155 hl (k := 5) rfl (by rw [ex22]; rfl) (by decide) rfl (fun ls hl => ?_)
                refine lv_goto (tgt := 76) hx hb dX8_seek_158 (by decide) ?_
                exact ihrc10 _ _ hf _ _ _ hw (lv_sub hl [1, 2, 3, 4, 5, 0] rfl)
    · have hf := nc_ifp hf c1
      refine lv_iload_n hx hb dX8_seek_8 rfl (lv_at hl 3 rfl) ?_
      refine lv_aload_n hx hb dX8_seek_9 rfl (lv_at hl 0 rfl) ?_
      refine gi_X8_208 cx hw (lModel_is h0) dX8_seek_10 ?_
      refine lv_icmp_le (tgt := 53) hx hb dX8_seek_13 (by decide) (fun c23 => ?_) (fun c23 => ?_)
      · have hf := nc_ifp hf c23
        exact nc_vpm hret hf hw dX8_seek_53
      · have hf := nc_ifn hf c23
        refine lv_aload_n hx hb dX8_seek_16 rfl (lv_at hl 0 rfl) ?_
        refine lv_iload_n hx hb dX8_seek_17 rfl (lv_at hl 3 rfl) ?_
        refine pi_X8_208 cx hw (lModel_is h0) dX8_seek_18 (fun mi24 H locs emi24 hw => ?_)
        have hf := nc_let_at hf emi24
        refine lv_iconst (v := 0) hx hb dX8_seek_21 (by decide) ?_
        refine lv_istore (lv' := [(5, .int 0), (0, .ref o), (1, .int a1), (2, .int a2), (3, .int a3), (4, .int a4)]) hx hb dX8_seek_22 hl (by decide) rfl (fun ls hl => ?_)
        refine nc_loop_w (P := fun κ : Int32 → nc_Mem → Option (nc_Mem) => ∀ (x25 : Int32) (mi26 : nc_Mem), κ x25 mi26 = some res → ∀ (H : Heap) (locs : List Loc) (ls : Array Slot), nc_W G K mi26 H locs → lv_has ls 6 [(0, .ref o), (5, .int x25)] → W p l e (rm_X8_seek (n + 1)) s m args below meth c H locs 0 0 Q (F0 m 24 ls [])) ?_ ?_ 200 _ _ hf _ _ _ hw (lv_sub hl [1, 0] rfl)
        · intro x25 mi26 hf; exact absurd hf (by intro q; cases q)
        · intro rc27 ihrc27 x25 mi26 hf H locs ls hw hl
          unfold B_X8_seek_24 at hf
          refine lv_iload hx hb dX8_seek_24 (lv_at hl 1 rfl) ?_
          refine lv_aload_n hx hb dX8_seek_26 rfl (lv_at hl 0 rfl) ?_
          refine gi_X8_65 cx hw (lModel_is h0) dX8_seek_27 ?_
          refine lv_icmp_ge (tgt := 53) hx hb dX8_seek_30 (by decide) (fun c28 => ?_) (fun c28 => ?_)
          · have hf := nc_ifp hf c28
            exact nc_vpm hret hf hw dX8_seek_53
          · have hf := nc_ifn hf c28
            refine lv_aload_n hx hb dX8_seek_33 rfl (lv_at hl 0 rfl) ?_
            refine gr_X8_58 cx hw (lModel_is h0) (lModel_best h0) (lModel_best_L h0) dX8_seek_34 ?_
            refine lv_iload hx hb dX8_seek_37 (lv_at hl 1 rfl) ?_
            refine lv_aload_n hx hb dX8_seek_39 rfl (lv_at hl 0 rfl) ?_
            refine gr_X8_55 cx hw (lModel_is h0) (lModel_has h0) (lModel_has_L h0) dX8_seek_40 ?_
            refine lv_iload hx hb dX8_seek_43 (lv_at hl 1 rfl) ?_
            obtain ⟨j29, ej29, ij29, lj29, hf⟩ := nc_ix hf
            refine nc_ild cx hw (lModel_has_L h0) ij29 ej29 dX8_seek_45 ?_
            refine nc_ist cx hw (lModel_best_L h0) ij29 ej29 dX8_seek_46 (fun mi30 H locs emi30 hw => ?_)
            have hf := nc_let_at hf emi30
            obtain ⟨x31, ex31⟩ : ∃ y : Int32, y = x25 + 1 := ⟨_, rfl⟩
            have hf := nc_let_at hf ex31
            refine lv_iinc (v := x31) (lv' := [(5, .int x31), (0, .ref o)]) hx hb dX8_seek_47 hl (k := 1) rfl (by rw [ex31]; rfl) (by decide) rfl (fun ls hl => ?_)
            refine lv_goto (tgt := 24) hx hb dX8_seek_50 (by decide) ?_
            exact ihrc27 _ _ hf _ _ _ hw (lv_sub hl [1, 0] rfl)
abbrev rm_X8_eachBy : Room := { frames := 19, cells := 0, slots := 0, locals := 465 }
set_option maxRecDepth 100000 in
set_option maxHeartbeats 4000000 in
theorem c_X8_eachBy (l : Launch) {G : nc_G} {K : nc_K} {o : Nat} (h0 : nc_LModel G K o) (mi : nc_Mem) (a1 : Int32) (res : nc_Mem × Int32) (hf : f_X8_eachBy mi o a1 = some res) : nc_M l yX8_eachBy cX8_eachBy 3 (some .int) rm_X8_eachBy 0 0 G K K [.ref o, .int a1] mi res.1 (some (.int res.2)) := by
  refine nc_meet_i (by decide) (Nat.le_of_ble_eq_true rfl) ?_
  intro p e s m args below meth c Q H locs ls cx hret hw hl
  have cx : nc_C p s m args c cX8_eachBy 3 RX8 G := cx
  have hl : lv_has ls 3 [(0, .ref o), (1, .int a1)] := hl
  have hx := cx.1
  have hb := cx.2.1
  unfold f_X8_eachBy at hf
  refine lv_aload_n hx hb dX8_eachBy_0 rfl (lv_at hl 0 rfl) ?_
  obtain ⟨q1, hq1, hf⟩ := nc_bi hf
  refine nc_callVv cx hw lk_X8_139 (c_X8_findFar l h0 mi  q1 hq1) (ci := 8) rfl (lModel_is h0) rfl hl.1 rfl (Nat.le_of_ble_eq_true rfl) ⟨rfl, rfl, Nat.le_of_ble_eq_true rfl, Nat.le_of_ble_eq_true rfl⟩ dX8_eachBy_1 (fun H locs hw => ?_)
  refine lv_aload_n hx hb dX8_eachBy_4 rfl (lv_at hl 0 rfl) ?_
  refine lv_iconst (v := 0) hx hb dX8_eachBy_5 (by decide) ?_
  refine pi_X8_208 cx hw (lModel_is h0) dX8_eachBy_6 (fun mi2 H locs emi2 hw => ?_)
  have hf := nc_let_at hf emi2
  refine lv_iconst (v := 0) hx hb dX8_eachBy_9 (by decide) ?_
  refine lv_istore_n (lv' := [(2, .int 0), (0, .ref o), (1, .int a1)]) hx hb dX8_eachBy_10 rfl hl (by decide) rfl (fun ls hl => ?_)
  obtain ⟨k3, ek3, hf⟩ := nc_jn_of hf
  have hk3 : ∀ (mi4 : nc_Mem), k3 mi4 = some res → ∀ (H : Heap) (locs : List Loc) (ls : Array Slot), nc_W G K mi4 H locs → lv_has ls 3 [(0, .ref o), (1, .int a1)] → W p l e rm_X8_eachBy s m args below meth c H locs 0 0 Q (F0 m 33 ls []) := by
    intro mi4 hf H locs ls hw hl
    have hf := ((congrFun ek3 mi4)).symm.trans hf
    refine lv_aload_n hx hb dX8_eachBy_33 rfl (lv_at hl 0 rfl) ?_
    refine lv_iconst (v := 0) hx hb dX8_eachBy_34 (by decide) ?_
    refine lv_iconst (v := 0) hx hb dX8_eachBy_35 (by decide) ?_
    refine lv_iconst (v := 0) hx hb dX8_eachBy_36 (by decide) ?_
    refine lv_iload_n hx hb dX8_eachBy_37 rfl (lv_at hl 1 rfl) ?_
    obtain ⟨q5, hq5, hf⟩ := nc_bi hf
    refine nc_callVv cx hw lk_X8_211 (c_X8_seek l h0 8 mi4 0 0 0 a1 q5 hq5) (ci := 8) rfl (lModel_is h0) rfl hl.1 rfl (Nat.le_of_ble_eq_true rfl) ⟨rfl, rfl, Nat.le_of_ble_eq_true rfl, Nat.le_of_ble_eq_true rfl⟩ dX8_eachBy_38 (fun H locs hw => ?_)
    refine lv_aload_n hx hb dX8_eachBy_41 rfl (lv_at hl 0 rfl) ?_
    refine gi_X8_208 cx hw (lModel_is h0) dX8_eachBy_42 ?_
    exact nc_rpm hret hf rfl hw dX8_eachBy_45
  refine nc_loop_w (P := fun κ : Int32 → nc_Mem → Option (nc_Mem × Int32) => ∀ (x6 : Int32) (mi7 : nc_Mem), κ x6 mi7 = some res → ∀ (H : Heap) (locs : List Loc) (ls : Array Slot), nc_W G K mi7 H locs → lv_has ls 3 [(0, .ref o), (1, .int a1), (2, .int x6)] → W p l e rm_X8_eachBy s m args below meth c H locs 0 0 Q (F0 m 11 ls [])) ?_ ?_ 200 _ _ hf _ _ _ hw (lv_sub hl [1, 2, 0] rfl)
  · intro x6 mi7 hf; exact absurd hf (by intro q; cases q)
  · intro rc8 ihrc8 x6 mi7 hf H locs ls hw hl
    unfold B_X8_eachBy_11 at hf
    refine lv_iload_n hx hb dX8_eachBy_11 rfl (lv_at hl 2 rfl) ?_
    refine lv_aload_n hx hb dX8_eachBy_12 rfl (lv_at hl 0 rfl) ?_
    refine gi_X8_65 cx hw (lModel_is h0) dX8_eachBy_13 ?_
    refine lv_icmp_ge (tgt := 33) hx hb dX8_eachBy_16 (by decide) (fun c9 => ?_) (fun c9 => ?_)
    · have hf := nc_ifp hf c9
      exact hk3 _ hf _ _ _ hw (lv_sub hl [0, 1] rfl)
    · have hf := nc_ifn hf c9
      refine lv_aload_n hx hb dX8_eachBy_19 rfl (lv_at hl 0 rfl) ?_
      refine gr_X8_58 cx hw (lModel_is h0) (lModel_best h0) (lModel_best_L h0) dX8_eachBy_20 ?_
      refine lv_iload_n hx hb dX8_eachBy_23 rfl (lv_at hl 2 rfl) ?_
      refine lv_bipush (v := (-9)) hx hb dX8_eachBy_24 (by decide) ?_
      obtain ⟨j10, ej10, ij10, lj10, hf⟩ := nc_ix hf
      refine nc_ist cx hw (lModel_best_L h0) ij10 ej10 dX8_eachBy_26 (fun mi11 H locs emi11 hw => ?_)
      have hf := nc_let_at hf emi11
      obtain ⟨x12, ex12⟩ : ∃ y : Int32, y = x6 + 1 := ⟨_, rfl⟩
      have hf := nc_let_at hf ex12
      refine lv_iinc (v := x12) (lv' := [(2, .int x12), (0, .ref o), (1, .int a1)]) hx hb dX8_eachBy_27 hl (k := 2) rfl (by rw [ex12]; rfl) (by decide) rfl (fun ls hl => ?_)
      refine lv_goto (tgt := 11) hx hb dX8_eachBy_30 (by decide) ?_
      exact ihrc8 _ _ hf _ _ _ hw (lv_sub hl [1, 2, 0] rfl)
abbrev rm_X8_each : Room := { frames := 20, cells := 0, slots := 0, locals := 487 }
set_option maxRecDepth 100000 in
set_option maxHeartbeats 4000000 in
theorem c_X8_each (l : Launch) {G : nc_G} {K : nc_K} {o : Nat} (h0 : nc_LModel G K o) (mi : nc_Mem) (a1 : Int32) (res : nc_Mem × Int32) (hf : f_X8_each mi o a1 = some res) : nc_M l yX8_each cX8_each 3 (some .int) rm_X8_each 0 0 G K K [.ref o, .int a1] mi res.1 (some (.int res.2)) := by
  refine nc_meet_i (by decide) (Nat.le_of_ble_eq_true rfl) ?_
  intro p e s m args below meth c Q H locs ls cx hret hw hl
  have cx : nc_C p s m args c cX8_each 3 RX8 G := cx
  have hl : lv_has ls 3 [(0, .ref o), (1, .int a1)] := hl
  have hx := cx.1
  have hb := cx.2.1
  unfold f_X8_each at hf
  refine lv_iload_n hx hb dX8_each_0 rfl (lv_at hl 1 rfl) ?_
  refine lv_iconst (v := (-1)) hx hb dX8_each_1 (by decide) ?_
  obtain ⟨k1, ek1, hf⟩ := nc_jn_of hf
  have hk1 : k1 = some res → ∀ (H : Heap) (locs : List Loc) (ls : Array Slot), nc_W G K mi H locs → lv_has ls 3 [(0, .ref o), (1, .int a1)] → W p l e rm_X8_each s m args below meth c H locs 0 0 Q (F0 m 19 ls []) := by
    intro hf H locs ls hw hl
    have hf := (ek1).symm.trans hf
    refine lv_aload_n hx hb dX8_each_19 rfl (lv_at hl 0 rfl) ?_
    refine lv_bipush (v := (-9)) hx hb dX8_each_20 (by decide) ?_
    obtain ⟨q2, hq2, hf⟩ := nc_bi hf
    refine nc_callVi cx hw lk_X8_215 (c_X8_eachBy l h0 mi (-9) q2 hq2) (ci := 8) rfl (lModel_is h0) rfl hl.1 rfl (Nat.le_of_ble_eq_true rfl) ⟨rfl, rfl, Nat.le_of_ble_eq_true rfl, Nat.le_of_ble_eq_true rfl⟩ dX8_each_22 (fun H locs hw => ?_)
    refine lv_istore_n (lv' := [(2, .int q2.2), (0, .ref o), (1, .int a1)]) hx hb dX8_each_25 rfl hl (by decide) rfl (fun ls hl => ?_)
    refine lv_iload_n hx hb dX8_each_26 rfl (lv_at hl 2 rfl) ?_
    refine lv_iconst (v := (-1)) hx hb dX8_each_27 (by decide) ?_
    refine lv_icmp_ne (tgt := 35) hx hb dX8_each_28 (by decide) (fun c3 => ?_) (fun c3 => ?_)
    · have hf := nc_ifn hf c3
      refine lv_aload_n hx hb dX8_each_35 rfl (lv_at hl 1 rfl) ?_
      refine gr_X8_58 cx hw (lModel_is h0) (lModel_best h0) (lModel_best_L h0) dX8_each_36 ?_
      refine lv_iload_n hx hb dX8_each_39 rfl (lv_at hl 2 rfl) ?_
      obtain ⟨j4, ej4, ij4, lj4, hf⟩ := nc_ix hf
      refine nc_ild cx hw (lModel_best_L h0) ij4 ej4 dX8_each_40 ?_
      exact nc_rpm hret hf rfl hw dX8_each_41
    · have hf := nc_ifp hf c3
      refine lv_iload_n hx hb dX8_each_31 rfl (lv_at hl 0 rfl) ?_
      refine lv_goto (tgt := 41) hx hb dX8_each_32 (by decide) ?_
      exact nc_rpm hret hf rfl hw dX8_each_41
  refine lv_icmp_eq (tgt := 19) hx hb dX8_each_2 (by decide) (fun c5 => ?_) (fun c5 => ?_)
  · have hf := nc_ifp hf c5
    exact hk1 hf _ _ _ hw (lv_sub hl [0, 1] rfl)
  · have hf := nc_ifn hf c5
    refine lv_aload_n hx hb dX8_each_5 rfl (lv_at hl 0 rfl) ?_
    refine lv_iload_n hx hb dX8_each_6 rfl (lv_at hl 1 rfl) ?_
    obtain ⟨q6, hq6, hf⟩ := nc_bi hf
    refine nc_callVi cx hw lk_X8_108 (c_X8_isPerson l h0 mi a1 q6 hq6) (ci := 8) rfl (lModel_is h0) rfl hl.1 rfl (Nat.le_of_ble_eq_true rfl) ⟨rfl, rfl, Nat.le_of_ble_eq_true rfl, Nat.le_of_ble_eq_true rfl⟩ dX8_each_7 (fun H locs hw => ?_)
    refine lv_if_ne (tgt := 19) hx hb dX8_each_10 (by decide) (fun c7 => ?_) (fun c7 => ?_)
    · have hf := nc_ifn hf c7
      exact hk1 hf _ _ _ hw (lv_sub hl [0, 1] rfl)
    · have hf := nc_ifp hf c7
      refine lv_aload_n hx hb dX8_each_13 rfl (lv_at hl 0 rfl) ?_
      refine lv_iconst (v := (-1)) hx hb dX8_each_14 (by decide) ?_
      obtain ⟨q8, hq8, hf⟩ := nc_bi hf
      refine nc_callVi cx hw lk_X8_71 (c_X8_refuse l h0 mi (-1) q8 hq8) (ci := 8) rfl (lModel_is h0) rfl hl.1 rfl (Nat.le_of_ble_eq_true rfl) ⟨rfl, rfl, Nat.le_of_ble_eq_true rfl, Nat.le_of_ble_eq_true rfl⟩ dX8_each_15 (fun H locs hw => ?_)
      exact nc_rpm hret hf rfl hw dX8_each_18
abbrev rm_X8_pay : Room := { frames := 20, cells := 0, slots := 0, locals := 487 }
set_option maxRecDepth 100000 in
set_option maxHeartbeats 4000000 in
theorem c_X8_pay (l : Launch) {G : nc_G} {K : nc_K} {o : Nat} (h0 : nc_LModel G K o) (mi : nc_Mem) (a1 : Int32) (res : nc_Mem × Int32) (hf : f_X8_pay mi o a1 = some res) : nc_M l yX8_pay cX8_pay 2 (some .int) rm_X8_pay 0 0 G K K [.ref o, .int a1] mi res.1 (some (.int res.2)) := by
  refine nc_meet_i (by decide) (Nat.le_of_ble_eq_true rfl) ?_
  intro p e s m args below meth c Q H locs ls cx hret hw hl
  have cx : nc_C p s m args c cX8_pay 2 RX8 G := cx
  have hl : lv_has ls 2 [(0, .ref o), (1, .int a1)] := hl
  have hx := cx.1
  have hb := cx.2.1
  unfold f_X8_pay at hf
  refine lv_aload_n hx hb dX8_pay_0 rfl (lv_at hl 0 rfl) ?_
  refine lv_iload_n hx hb dX8_pay_1 rfl (lv_at hl 1 rfl) ?_
  obtain ⟨q1, hq1, hf⟩ := nc_bi hf
  refine nc_callVi cx hw lk_X8_108 (c_X8_isPerson l h0 mi a1 q1 hq1) (ci := 8) rfl (lModel_is h0) rfl hl.1 rfl (Nat.le_of_ble_eq_true rfl) ⟨rfl, rfl, Nat.le_of_ble_eq_true rfl, Nat.le_of_ble_eq_true rfl⟩ dX8_pay_2 (fun H locs hw => ?_)
  refine lv_if_ne (tgt := 14) hx hb dX8_pay_5 (by decide) (fun c2 => ?_) (fun c2 => ?_)
  · have hf := nc_ifn hf c2
    refine lv_aload_n hx hb dX8_pay_14 rfl (lv_at hl 0 rfl) ?_
    refine lv_bipush (v := (-9)) hx hb dX8_pay_15 (by decide) ?_
    obtain ⟨q3, hq3, hf⟩ := nc_bi hf
    refine nc_callVi cx hw lk_X8_215 (c_X8_eachBy l h0 mi (-9) q3 hq3) (ci := 8) rfl (lModel_is h0) rfl hl.1 rfl (Nat.le_of_ble_eq_true rfl) ⟨rfl, rfl, Nat.le_of_ble_eq_true rfl, Nat.le_of_ble_eq_true rfl⟩ dX8_pay_17 (fun H locs hw => ?_)
    refine lv_aload_n hx hb dX8_pay_20 rfl (lv_at hl 0 rfl) ?_
    refine lv_iload_n hx hb dX8_pay_21 rfl (lv_at hl 1 rfl) ?_
    obtain ⟨q4, hq4, hf⟩ := nc_bi hf
    refine nc_callVi cx hw lk_X8_215 (c_X8_eachBy l h0 q3.1 a1 q4 hq4) (ci := 8) rfl (lModel_is h0) rfl hl.1 rfl (Nat.le_of_ble_eq_true rfl) ⟨rfl, rfl, Nat.le_of_ble_eq_true rfl, Nat.le_of_ble_eq_true rfl⟩ dX8_pay_22 (fun H locs hw => ?_)
    refine lv_isub hx hb dX8_pay_25 ?_
    exact nc_rpm hret hf rfl hw dX8_pay_26
  · have hf := nc_ifp hf c2
    refine lv_aload_n hx hb dX8_pay_8 rfl (lv_at hl 0 rfl) ?_
    refine lv_iconst (v := (-1)) hx hb dX8_pay_9 (by decide) ?_
    obtain ⟨q5, hq5, hf⟩ := nc_bi hf
    refine nc_callVi cx hw lk_X8_71 (c_X8_refuse l h0 mi (-1) q5 hq5) (ci := 8) rfl (lModel_is h0) rfl hl.1 rfl (Nat.le_of_ble_eq_true rfl) ⟨rfl, rfl, Nat.le_of_ble_eq_true rfl, Nat.le_of_ble_eq_true rfl⟩ dX8_pay_10 (fun H locs hw => ?_)
    exact nc_rpm hret hf rfl hw dX8_pay_13
abbrev rm_X8_isInTime : Room := { frames := 5, cells := 0, slots := 0, locals := 126 }
set_option maxRecDepth 100000 in
set_option maxHeartbeats 4000000 in
theorem c_X8_isInTime (l : Launch) {G : nc_G} {K : nc_K} {o : Nat} (h0 : nc_LModel G K o) (mi : nc_Mem) (a1 : Int32) (res : nc_Mem × Int32) (hf : f_X8_isInTime mi o a1 = some res) : nc_M l yX8_isInTime cX8_isInTime 3 (some .boolean) rm_X8_isInTime 0 0 G K K [.ref o, .int a1] mi res.1 (some (.int res.2)) := by
  refine nc_meet_i (by decide) (Nat.le_of_ble_eq_true rfl) ?_
  intro p e s m args below meth c Q H locs ls cx hret hw hl
  have cx : nc_C p s m args c cX8_isInTime 3 RX8 G := cx
  have hl : lv_has ls 3 [(0, .ref o), (1, .int a1)] := hl
  have hx := cx.1
  have hb := cx.2.1
  unfold f_X8_isInTime at hf
  refine lv_aload_n hx hb dX8_isInTime_0 rfl (lv_at hl 0 rfl) ?_
  refine lv_aload_n hx hb dX8_isInTime_1 rfl (lv_at hl 0 rfl) ?_
  refine gi_X8_148 cx hw (lModel_is h0) dX8_isInTime_2 ?_
  refine lv_iload_n hx hb dX8_isInTime_5 rfl (lv_at hl 1 rfl) ?_
  refine lv_bipush (v := (-9)) hx hb dX8_isInTime_6 (by decide) ?_
  obtain ⟨q1, hq1, hf⟩ := nc_bi hf
  refine nc_callVi cx hw lk_X8_188 (c_X8_soonestBy l h0 mi (mi o 11) a1 (-9) q1 hq1) (ci := 8) rfl (lModel_is h0) rfl hl.1 rfl (Nat.le_of_ble_eq_true rfl) ⟨rfl, rfl, Nat.le_of_ble_eq_true rfl, Nat.le_of_ble_eq_true rfl⟩ dX8_isInTime_8 (fun H locs hw => ?_)
  refine lv_istore_n (lv' := [(2, .int q1.2), (0, .ref o), (1, .int a1)]) hx hb dX8_isInTime_11 rfl hl (by decide) rfl (fun ls hl => ?_)
  refine lv_iload_n hx hb dX8_isInTime_12 rfl (lv_at hl 0 rfl) ?_
  refine lv_bipush (v := (-9)) hx hb dX8_isInTime_13 (by decide) ?_
  refine lv_icmp_eq (tgt := 34) hx hb dX8_isInTime_15 (by decide) (fun c2 => ?_) (fun c2 => ?_)
  · have hf := nc_ifp hf c2
    refine lv_iconst (v := 0) hx hb dX8_isInTime_34 (by decide) ?_
    exact nc_rpm hret hf rfl hw dX8_isInTime_35
  · have hf := nc_ifn hf c2
    refine lv_iload_n hx hb dX8_isInTime_18 rfl (lv_at hl 0 rfl) ?_
    refine lv_aload_n hx hb dX8_isInTime_19 rfl (lv_at hl 1 rfl) ?_
    refine gr_X8_31 cx hw (lModel_is h0) (lModel_thing h0) ((lModel_thing_L h0)).1 dX8_isInTime_20 ?_
    refine lv_iload_n hx hb dX8_isInTime_23 rfl (lv_at hl 2 rfl) ?_
    obtain ⟨j3, ej3, ij3, lj3, hf⟩ := nc_ix hf
    refine nc_ald cx hw (by decide) ((lModel_thing_L h0)).1 ij3 ej3 (((lModel_thing_L h0)).2 j3 lj3).1 (((lModel_thing_L h0)).2 j3 lj3).2 dX8_isInTime_24 ?_
    refine lv_iconst (v := 5) hx hb dX8_isInTime_25 (by decide) ?_
    refine nc_ild cx hw (((lModel_thing_L h0)).2 j3 lj3).2 (nc_lit (j := 5) rfl (by decide) (by decide)) rfl dX8_isInTime_26 ?_
    refine lv_icmp_gt (tgt := 34) hx hb dX8_isInTime_27 (by decide) (fun c4 => ?_) (fun c4 => ?_)
    · have hf := nc_ifp hf c4
      refine lv_iconst (v := 0) hx hb dX8_isInTime_34 (by decide) ?_
      exact nc_rpm hret hf rfl hw dX8_isInTime_35
    · have hf := nc_ifn hf c4
      refine lv_iconst (v := 1) hx hb dX8_isInTime_30 (by decide) ?_
      refine lv_goto (tgt := 35) hx hb dX8_isInTime_31 (by decide) ?_
      exact nc_rpm hret hf rfl hw dX8_isInTime_35
abbrev rm_X8_fewest : Room := { frames := 6, cells := 0, slots := 0, locals := 148 }
set_option maxRecDepth 100000 in
set_option maxHeartbeats 4000000 in
theorem c_X8_fewest (l : Launch) {G : nc_G} {K : nc_K} {o : Nat} (h0 : nc_LModel G K o) (mi : nc_Mem)  (res : nc_Mem × Int32) (hf : f_X8_fewest mi o = some res) : nc_M l yX8_fewest cX8_fewest 3 (some .int) rm_X8_fewest 0 0 G K K [.ref o] mi res.1 (some (.int res.2)) := by
  refine nc_meet_i (by decide) (Nat.le_of_ble_eq_true rfl) ?_
  intro p e s m args below meth c Q H locs ls cx hret hw hl
  have cx : nc_C p s m args c cX8_fewest 3 RX8 G := cx
  have hl : lv_has ls 3 [(0, .ref o)] := hl
  have hx := cx.1
  have hb := cx.2.1
  unfold f_X8_fewest at hf
  refine lv_aload_n hx hb dX8_fewest_0 rfl (lv_at hl 0 rfl) ?_
  obtain ⟨q1, hq1, hf⟩ := nc_bi hf
  refine nc_callVv cx hw lk_X8_185 (c_X8_findWays l h0 mi  q1 hq1) (ci := 8) rfl (lModel_is h0) rfl hl.1 rfl (Nat.le_of_ble_eq_true rfl) ⟨rfl, rfl, Nat.le_of_ble_eq_true rfl, Nat.le_of_ble_eq_true rfl⟩ dX8_fewest_1 (fun H locs hw => ?_)
  refine lv_iconst (v := 0) hx hb dX8_fewest_4 (by decide) ?_
  refine lv_istore_n (lv' := [(1, .int 0), (0, .ref o)]) hx hb dX8_fewest_5 rfl hl (by decide) rfl (fun ls hl => ?_)
  refine lv_iconst (v := 0) hx hb dX8_fewest_6 (by decide) ?_
  refine lv_istore_n (lv' := [(2, .int 0), (1, .int 0), (0, .ref o)]) hx hb dX8_fewest_7 rfl hl (by decide) rfl (fun ls hl => ?_)
  refine nc_loop_w (P := fun κ : Int32 → Int32 → nc_Mem → Option (nc_Mem × Int32) => ∀ (x2 : Int32) (x3 : Int32) (mi4 : nc_Mem), κ x2 x3 mi4 = some res → ∀ (H : Heap) (locs : List Loc) (ls : Array Slot), nc_W G K mi4 H locs → lv_has ls 3 [(0, .ref o), (1, .int x2), (2, .int x3)] → W p l e rm_X8_fewest s m args below meth c H locs 0 0 Q (F0 m 8 ls [])) ?_ ?_ 200 _ _ _ hf _ _ _ hw (lv_sub hl [2, 1, 0] rfl)
  · intro x2 x3 mi4 hf; exact absurd hf (by intro q; cases q)
  · intro rc5 ihrc5 x2 x3 mi4 hf H locs ls hw hl
    unfold B_X8_fewest_8 at hf
    refine lv_iload_n hx hb dX8_fewest_8 rfl (lv_at hl 2 rfl) ?_
    refine lv_aload_n hx hb dX8_fewest_9 rfl (lv_at hl 0 rfl) ?_
    refine gi_X8_68 cx hw (lModel_is h0) dX8_fewest_10 ?_
    refine lv_icmp_ge (tgt := 85) hx hb dX8_fewest_13 (by decide) (fun c6 => ?_) (fun c6 => ?_)
    · have hf := nc_ifp hf c6
      refine lv_iload_n hx hb dX8_fewest_85 rfl (lv_at hl 1 rfl) ?_
      exact nc_rpm hret hf rfl hw dX8_fewest_86
    · have hf := nc_ifn hf c6
      refine lv_aload_n hx hb dX8_fewest_16 rfl (lv_at hl 0 rfl) ?_
      refine lv_iload_n hx hb dX8_fewest_17 rfl (lv_at hl 2 rfl) ?_
      obtain ⟨q7, hq7, hf⟩ := nc_bi hf
      refine nc_callVi cx hw lk_X8_218 (c_X8_isInTime l h0 mi4 x3 q7 hq7) (ci := 8) rfl (lModel_is h0) rfl hl.1 rfl (Nat.le_of_ble_eq_true rfl) ⟨rfl, rfl, Nat.le_of_ble_eq_true rfl, Nat.le_of_ble_eq_true rfl⟩ dX8_fewest_18 (fun H locs hw => ?_)
      refine lv_if_ne (tgt := 79) hx hb dX8_fewest_21 (by decide) (fun c8 => ?_) (fun c8 => ?_)
      · have hf := nc_ifn hf c8
        obtain ⟨x9, ex9⟩ : ∃ y : Int32, y = x3 + 1 := ⟨_, rfl⟩
        have hf := nc_let_at hf ex9
        refine lv_iinc (v := x9) (lv' := [(2, .int x9), (0, .ref o), (1, .int x2)]) hx hb dX8_fewest_79 hl (k := 2) rfl (by rw [ex9]; rfl) (by decide) rfl (fun ls hl => ?_)
        refine lv_goto (tgt := 8) hx hb dX8_fewest_82 (by decide) ?_
        exact ihrc5 _ _ _ hf _ _ _ hw (lv_sub hl [1, 2, 0] rfl)
      · have hf := nc_ifp hf c8
        refine lv_aload_n hx hb dX8_fewest_24 rfl (lv_at hl 0 rfl) ?_
        refine gr_X8_37 cx hw (lModel_is h0) (lModel_far h0) ((lModel_far_L h0)).1 dX8_fewest_25 ?_
        refine lv_iconst (v := 0) hx hb dX8_fewest_28 (by decide) ?_
        refine nc_ald cx hw (by decide) ((lModel_far_L h0)).1 (nc_lit (j := 0) rfl (by decide) (by decide)) rfl (((lModel_far_L h0)).2 0 (by decide)).1 (((lModel_far_L h0)).2 0 (by decide)).2 dX8_fewest_29 ?_
        refine lv_aload_n hx hb dX8_fewest_30 rfl (lv_at hl 0 rfl) ?_
        refine gr_X8_31 cx hw (lModel_is h0) (lModel_thing h0) ((lModel_thing_L h0)).1 dX8_fewest_31 ?_
        refine lv_iload_n hx hb dX8_fewest_34 rfl (lv_at hl 2 rfl) ?_
        obtain ⟨j10, ej10, ij10, lj10, hf⟩ := nc_ix hf
        refine nc_ald cx hw (by decide) ((lModel_thing_L h0)).1 ij10 ej10 (((lModel_thing_L h0)).2 j10 lj10).1 (((lModel_thing_L h0)).2 j10 lj10).2 dX8_fewest_35 ?_
        refine lv_iconst (v := 2) hx hb dX8_fewest_36 (by decide) ?_
        refine nc_ild cx hw (((lModel_thing_L h0)).2 j10 lj10).2 (nc_lit (j := 2) rfl (by decide) (by decide)) rfl dX8_fewest_37 ?_
        obtain ⟨j11, ej11, ij11, lj11, hf⟩ := nc_ix hf
        refine nc_ild cx hw (((lModel_far_L h0)).2 0 (by decide)).2 ij11 ej11 dX8_fewest_38 ?_
        refine lv_aload_n hx hb dX8_fewest_39 rfl (lv_at hl 0 rfl) ?_
        refine gr_X8_37 cx hw (lModel_is h0) (lModel_far h0) ((lModel_far_L h0)).1 dX8_fewest_40 ?_
        refine lv_aload_n hx hb dX8_fewest_43 rfl (lv_at hl 0 rfl) ?_
        refine gr_X8_31 cx hw (lModel_is h0) (lModel_thing h0) ((lModel_thing_L h0)).1 dX8_fewest_44 ?_
        refine lv_iload_n hx hb dX8_fewest_47 rfl (lv_at hl 2 rfl) ?_
        refine nc_ald cx hw (by decide) ((lModel_thing_L h0)).1 ij10 ej10 (((lModel_thing_L h0)).2 j10 lj10).1 (((lModel_thing_L h0)).2 j10 lj10).2 dX8_fewest_48 ?_
        refine lv_iconst (v := 2) hx hb dX8_fewest_49 (by decide) ?_
        refine nc_ild cx hw (((lModel_thing_L h0)).2 j10 lj10).2 (nc_lit (j := 2) rfl (by decide) (by decide)) rfl dX8_fewest_50 ?_
        refine nc_ald cx hw (by decide) ((lModel_far_L h0)).1 ij11 ej11 (((lModel_far_L h0)).2 j11 lj11).1 (((lModel_far_L h0)).2 j11 lj11).2 dX8_fewest_51 ?_
        refine lv_aload_n hx hb dX8_fewest_52 rfl (lv_at hl 0 rfl) ?_
        refine gr_X8_31 cx hw (lModel_is h0) (lModel_thing h0) ((lModel_thing_L h0)).1 dX8_fewest_53 ?_
        refine lv_iload_n hx hb dX8_fewest_56 rfl (lv_at hl 2 rfl) ?_
        refine nc_ald cx hw (by decide) ((lModel_thing_L h0)).1 ij10 ej10 (((lModel_thing_L h0)).2 j10 lj10).1 (((lModel_thing_L h0)).2 j10 lj10).2 dX8_fewest_57 ?_
        refine lv_iconst (v := 3) hx hb dX8_fewest_58 (by decide) ?_
        refine nc_ild cx hw (((lModel_thing_L h0)).2 j10 lj10).2 (nc_lit (j := 3) rfl (by decide) (by decide)) rfl dX8_fewest_59 ?_
        obtain ⟨j12, ej12, ij12, lj12, hf⟩ := nc_ix hf
        refine nc_ild cx hw (((lModel_far_L h0)).2 j11 lj11).2 ij12 ej12 dX8_fewest_60 ?_
        refine lv_iadd hx hb dX8_fewest_61 ?_
        refine lv_aload_n hx hb dX8_fewest_62 rfl (lv_at hl 0 rfl) ?_
        refine gr_X8_31 cx hw (lModel_is h0) (lModel_thing h0) ((lModel_thing_L h0)).1 dX8_fewest_63 ?_
        refine lv_iload_n hx hb dX8_fewest_66 rfl (lv_at hl 2 rfl) ?_
        refine nc_ald cx hw (by decide) ((lModel_thing_L h0)).1 ij10 ej10 (((lModel_thing_L h0)).2 j10 lj10).1 (((lModel_thing_L h0)).2 j10 lj10).2 dX8_fewest_67 ?_
        refine lv_iconst (v := 5) hx hb dX8_fewest_68 (by decide) ?_
        refine nc_ild cx hw (((lModel_thing_L h0)).2 j10 lj10).2 (nc_lit (j := 5) rfl (by decide) (by decide)) rfl dX8_fewest_69 ?_
        refine lv_icmp_le (tgt := 76) hx hb dX8_fewest_70 (by decide) (fun c13 => ?_) (fun c13 => ?_)
        · have hf := nc_ifp hf c13
          obtain ⟨x14, ex14⟩ : ∃ y : Int32, y = x2 + 1 := ⟨_, rfl⟩
          have hf := nc_let_at hf ex14
          refine lv_iinc (v := x14) (lv' := [(1, .int x14), (0, .ref o), (2, .int x3)]) hx hb dX8_fewest_76 hl (k := 1) rfl (by rw [ex14]; rfl) (by decide) rfl (fun ls hl => ?_)
          obtain ⟨x15, ex15⟩ : ∃ y : Int32, y = x3 + 1 := ⟨_, rfl⟩
          have hf := nc_let_at hf ex15
          refine lv_iinc (v := x15) (lv' := [(2, .int x15), (1, .int x14), (0, .ref o)]) hx hb dX8_fewest_79 hl (k := 2) rfl (by rw [ex15]; rfl) (by decide) rfl (fun ls hl => ?_)
          refine lv_goto (tgt := 8) hx hb dX8_fewest_82 (by decide) ?_
          exact ihrc5 _ _ _ hf _ _ _ hw (lv_sub hl [2, 1, 0] rfl)
        · have hf := nc_ifn hf c13
          refine lv_bipush (v := (-9)) hx hb dX8_fewest_73 (by decide) ?_
          exact nc_rpm hret hf rfl hw dX8_fewest_75
abbrev rm_X8_sumBy : Room := { frames := 5, cells := 0, slots := 0, locals := 126 }
set_option maxRecDepth 100000 in
set_option maxHeartbeats 4000000 in
theorem c_X8_sumBy (l : Launch) {G : nc_G} {K : nc_K} {o : Nat} (h0 : nc_LModel G K o) (mi : nc_Mem) (a1 : Int32) (res : nc_Mem × Int32) (hf : f_X8_sumBy mi o a1 = some res) : nc_M l yX8_sumBy cX8_sumBy 5 (some .int) rm_X8_sumBy 0 0 G K K [.ref o, .int a1] mi res.1 (some (.int res.2)) := by
  refine nc_meet_i (by decide) (Nat.le_of_ble_eq_true rfl) ?_
  intro p e s m args below meth c Q H locs ls cx hret hw hl
  have cx : nc_C p s m args c cX8_sumBy 5 RX8 G := cx
  have hl : lv_has ls 5 [(0, .ref o), (1, .int a1)] := hl
  have hx := cx.1
  have hb := cx.2.1
  unfold f_X8_sumBy at hf
  refine lv_aload_n hx hb dX8_sumBy_0 rfl (lv_at hl 0 rfl) ?_
  obtain ⟨q1, hq1, hf⟩ := nc_bi hf
  refine nc_callVv cx hw lk_X8_185 (c_X8_findWays l h0 mi  q1 hq1) (ci := 8) rfl (lModel_is h0) rfl hl.1 rfl (Nat.le_of_ble_eq_true rfl) ⟨rfl, rfl, Nat.le_of_ble_eq_true rfl, Nat.le_of_ble_eq_true rfl⟩ dX8_sumBy_1 (fun H locs hw => ?_)
  refine lv_iconst (v := 0) hx hb dX8_sumBy_4 (by decide) ?_
  refine lv_istore_n (lv' := [(2, .int 0), (0, .ref o), (1, .int a1)]) hx hb dX8_sumBy_5 rfl hl (by decide) rfl (fun ls hl => ?_)
  refine lv_iconst (v := 0) hx hb dX8_sumBy_6 (by decide) ?_
  refine lv_istore_n (lv' := [(3, .int 0), (2, .int 0), (0, .ref o), (1, .int a1)]) hx hb dX8_sumBy_7 rfl hl (by decide) rfl (fun ls hl => ?_)
  refine nc_loop_w (P := fun κ : Int32 → Int32 → nc_Mem → Option (nc_Mem × Int32) => ∀ (x2 : Int32) (x3 : Int32) (mi4 : nc_Mem), κ x2 x3 mi4 = some res → ∀ (H : Heap) (locs : List Loc) (ls : Array Slot), nc_W G K mi4 H locs → lv_has ls 5 [(0, .ref o), (1, .int a1), (2, .int x2), (3, .int x3)] → W p l e rm_X8_sumBy s m args below meth c H locs 0 0 Q (F0 m 8 ls [])) ?_ ?_ 200 _ _ _ hf _ _ _ hw (lv_sub hl [2, 3, 1, 0] rfl)
  · intro x2 x3 mi4 hf; exact absurd hf (by intro q; cases q)
  · intro rc5 ihrc5 x2 x3 mi4 hf H locs ls hw hl
    unfold B_X8_sumBy_8 at hf
    refine lv_iload_n hx hb dX8_sumBy_8 rfl (lv_at hl 3 rfl) ?_
    refine lv_aload_n hx hb dX8_sumBy_9 rfl (lv_at hl 0 rfl) ?_
    refine gi_X8_68 cx hw (lModel_is h0) dX8_sumBy_10 ?_
    refine lv_icmp_ge (tgt := 50) hx hb dX8_sumBy_13 (by decide) (fun c6 => ?_) (fun c6 => ?_)
    · have hf := nc_ifp hf c6
      refine lv_iload_n hx hb dX8_sumBy_50 rfl (lv_at hl 2 rfl) ?_
      exact nc_rpm hret hf rfl hw dX8_sumBy_51
    · have hf := nc_ifn hf c6
      refine lv_aload_n hx hb dX8_sumBy_16 rfl (lv_at hl 0 rfl) ?_
      refine lv_iload_n hx hb dX8_sumBy_17 rfl (lv_at hl 1 rfl) ?_
      refine lv_iload_n hx hb dX8_sumBy_18 rfl (lv_at hl 3 rfl) ?_
      refine lv_bipush (v := (-9)) hx hb dX8_sumBy_19 (by decide) ?_
      obtain ⟨q7, hq7, hf⟩ := nc_bi hf
      refine nc_callVi cx hw lk_X8_188 (c_X8_soonestBy l h0 mi4 a1 x3 (-9) q7 hq7) (ci := 8) rfl (lModel_is h0) rfl hl.1 rfl (Nat.le_of_ble_eq_true rfl) ⟨rfl, rfl, Nat.le_of_ble_eq_true rfl, Nat.le_of_ble_eq_true rfl⟩ dX8_sumBy_21 (fun H locs hw => ?_)
      refine lv_istore (lv' := [(4, .int q7.2), (0, .ref o), (1, .int a1), (2, .int x2), (3, .int x3)]) hx hb dX8_sumBy_24 hl (by decide) rfl (fun ls hl => ?_)
      refine lv_iload_n hx hb dX8_sumBy_26 rfl (lv_at hl 3 rfl) ?_
      refine lv_iload hx hb dX8_sumBy_27 (lv_at hl 0 rfl) ?_
      refine lv_bipush (v := (-9)) hx hb dX8_sumBy_29 (by decide) ?_
      refine lv_icmp_ne (tgt := 40) hx hb dX8_sumBy_31 (by decide) (fun c8 => ?_) (fun c8 => ?_)
      · have hf := nc_ifn hf c8
        refine lv_iload hx hb dX8_sumBy_40 (lv_at hl 0 rfl) ?_
        refine lv_iadd hx hb dX8_sumBy_42 ?_
        refine lv_topi (fun x9 ex9 => ?_)
        have hf := nc_let_at hf ex9
        refine lv_istore_n (lv' := [(2, .int x9), (4, .int q7.2), (0, .ref o), (1, .int a1), (3, .int x3)]) hx hb dX8_sumBy_43 rfl hl (by decide) rfl (fun ls hl => ?_)
        obtain ⟨x10, ex10⟩ : ∃ y : Int32, y = x3 + 1 := ⟨_, rfl⟩
        have hf := nc_let_at hf ex10
        refine lv_iinc (v := x10) (lv' := [(3, .int x10), (2, .int x9), (4, .int q7.2), (0, .ref o), (1, .int a1)]) hx hb dX8_sumBy_44 hl (k := 4) rfl (by rw [ex10]; rfl) (by decide) rfl (fun ls hl => ?_)
        refine lv_goto (tgt := 8) hx hb dX8_sumBy_47 (by decide) ?_
        exact ihrc5 _ _ _ hf _ _ _ hw (lv_sub hl [3, 4, 1, 0] rfl)
      · have hf := nc_ifp hf c8
        refine lv_sipush (v := 999) hx hb dX8_sumBy_34 (by decide) ?_
        refine lv_goto (tgt := 42) hx hb dX8_sumBy_37 (by decide) ?_
        refine lv_iadd hx hb dX8_sumBy_42 ?_
        refine lv_topi (fun x11 ex11 => ?_)
        have hf := nc_let_at hf ex11
        refine lv_istore_n (lv' := [(2, .int x11), (4, .int q7.2), (0, .ref o), (1, .int a1), (3, .int x3)]) hx hb dX8_sumBy_43 rfl hl (by decide) rfl (fun ls hl => ?_)
        obtain ⟨x12, ex12⟩ : ∃ y : Int32, y = x3 + 1 := ⟨_, rfl⟩
        have hf := nc_let_at hf ex12
        refine lv_iinc (v := x12) (lv' := [(3, .int x12), (2, .int x11), (4, .int q7.2), (0, .ref o), (1, .int a1)]) hx hb dX8_sumBy_44 hl (k := 4) rfl (by rw [ex12]; rfl) (by decide) rfl (fun ls hl => ?_)
        refine lv_goto (tgt := 8) hx hb dX8_sumBy_47 (by decide) ?_
        exact ihrc5 _ _ _ hf _ _ _ hw (lv_sub hl [3, 4, 1, 0] rfl)
abbrev rm_X8_beside : Room := { frames := 6, cells := 0, slots := 0, locals := 150 }
set_option maxRecDepth 100000 in
set_option maxHeartbeats 4000000 in
theorem c_X8_beside (l : Launch) {G : nc_G} {K : nc_K} {o : Nat} (h0 : nc_LModel G K o) (mi : nc_Mem)  (res : nc_Mem × Int32) (hf : f_X8_beside mi o = some res) : nc_M l yX8_beside cX8_beside 1 (some .int) rm_X8_beside 0 0 G K K [.ref o] mi res.1 (some (.int res.2)) := by
  refine nc_meet_i (by decide) (Nat.le_of_ble_eq_true rfl) ?_
  intro p e s m args below meth c Q H locs ls cx hret hw hl
  have cx : nc_C p s m args c cX8_beside 1 RX8 G := cx
  have hl : lv_has ls 1 [(0, .ref o)] := hl
  have hx := cx.1
  have hb := cx.2.1
  unfold f_X8_beside at hf
  refine lv_aload_n hx hb dX8_beside_0 rfl (lv_at hl 0 rfl) ?_
  refine lv_aload_n hx hb dX8_beside_1 rfl (lv_at hl 0 rfl) ?_
  refine gi_X8_148 cx hw (lModel_is h0) dX8_beside_2 ?_
  obtain ⟨q1, hq1, hf⟩ := nc_bi hf
  refine nc_callVi cx hw lk_X8_221 (c_X8_sumBy l h0 mi (mi o 11) q1 hq1) (ci := 8) rfl (lModel_is h0) rfl hl.1 rfl (Nat.le_of_ble_eq_true rfl) ⟨rfl, rfl, Nat.le_of_ble_eq_true rfl, Nat.le_of_ble_eq_true rfl⟩ dX8_beside_5 (fun H locs hw => ?_)
  refine lv_aload_n hx hb dX8_beside_8 rfl (lv_at hl 0 rfl) ?_
  refine lv_iconst (v := 3) hx hb dX8_beside_9 (by decide) ?_
  obtain ⟨q2, hq2, hf⟩ := nc_bi hf
  refine nc_callVi cx hw lk_X8_221 (c_X8_sumBy l h0 q1.1 3 q2 hq2) (ci := 8) rfl (lModel_is h0) rfl hl.1 rfl (Nat.le_of_ble_eq_true rfl) ⟨rfl, rfl, Nat.le_of_ble_eq_true rfl, Nat.le_of_ble_eq_true rfl⟩ dX8_beside_10 (fun H locs hw => ?_)
  refine lv_isub hx hb dX8_beside_13 ?_
  exact nc_rpm hret hf rfl hw dX8_beside_14
abbrev rm_X8_change : Room := { frames := 0, cells := 0, slots := 0, locals := 0 }
set_option maxRecDepth 100000 in
set_option maxHeartbeats 4000000 in
theorem c_X8_change (l : Launch) {G : nc_G} {K : nc_K} {o : Nat} (h0 : nc_LModel G K o) (mi : nc_Mem) (a1 a2 : Int32) (res : nc_Mem) (hf : f_X8_change mi o a1 a2 = some res) : nc_M l yX8_change cX8_change 5 none rm_X8_change 0 0 G K K [.ref o, .int a1, .int a2] mi res none := by
  refine nc_meet_v (by decide) (Nat.le_of_ble_eq_true rfl) ?_
  intro p e s m args below meth c Q H locs ls cx hret hw hl
  have cx : nc_C p s m args c cX8_change 5 RX8 G := cx
  have hl : lv_has ls 5 [(0, .ref o), (1, .int a1), (2, .int a2)] := hl
  have hx := cx.1
  have hb := cx.2.1
  unfold f_X8_change at hf
  refine lv_iconst (v := 0) hx hb dX8_change_0 (by decide) ?_
  refine lv_istore_n (lv' := [(3, .int 0), (0, .ref o), (1, .int a1), (2, .int a2)]) hx hb dX8_change_1 rfl hl (by decide) rfl (fun ls hl => ?_)
  refine nc_loop_w (P := fun κ : Int32 → nc_Mem → Option (nc_Mem) => ∀ (x1 : Int32) (mi2 : nc_Mem), κ x1 mi2 = some res → ∀ (H : Heap) (locs : List Loc) (ls : Array Slot), nc_W G K mi2 H locs → lv_has ls 5 [(0, .ref o), (1, .int a1), (2, .int a2), (3, .int x1)] → W p l e rm_X8_change s m args below meth c H locs 0 0 Q (F0 m 2 ls [])) ?_ ?_ 200 _ _ hf _ _ _ hw (lv_sub hl [1, 2, 3, 0] rfl)
  · intro x1 mi2 hf; exact absurd hf (by intro q; cases q)
  · intro rc3 ihrc3 x1 mi2 hf H locs ls hw hl
    unfold B_X8_change_2 at hf
    refine lv_iload_n hx hb dX8_change_2 rfl (lv_at hl 3 rfl) ?_
    refine lv_iconst (v := 2) hx hb dX8_change_3 (by decide) ?_
    refine lv_icmp_ge (tgt := 49) hx hb dX8_change_4 (by decide) (fun c4 => ?_) (fun c4 => ?_)
    · have hf := nc_ifp hf c4
      exact nc_vpm hret hf hw dX8_change_49
    · have hf := nc_ifn hf c4
      refine lv_aload_n hx hb dX8_change_7 rfl (lv_at hl 0 rfl) ?_
      refine gr_X8_28 cx hw (lModel_is h0) (lModel_person h0) ((lModel_person_L h0)).1 dX8_change_8 ?_
      refine lv_iload_n hx hb dX8_change_11 rfl (lv_at hl 1 rfl) ?_
      obtain ⟨j5, ej5, ij5, lj5, hf⟩ := nc_ix hf
      refine nc_ald cx hw (by decide) ((lModel_person_L h0)).1 ij5 ej5 (((lModel_person_L h0)).2 j5 lj5).1 (((lModel_person_L h0)).2 j5 lj5).2 dX8_change_12 ?_
      refine lv_iload_n hx hb dX8_change_13 rfl (lv_at hl 3 rfl) ?_
      obtain ⟨j6, ej6, ij6, lj6, hf⟩ := nc_ix hf
      refine nc_ild cx hw (((lModel_person_L h0)).2 j5 lj5).2 ij6 ej6 dX8_change_14 ?_
      refine lv_topi (fun x7 ex7 => ?_)
      have hf := nc_let_at hf ex7
      refine lv_istore (lv' := [(4, .int x7), (0, .ref o), (1, .int a1), (2, .int a2), (3, .int x1)]) hx hb dX8_change_15 hl (by decide) rfl (fun ls hl => ?_)
      refine lv_aload_n hx hb dX8_change_17 rfl (lv_at hl 1 rfl) ?_
      refine gr_X8_28 cx hw (lModel_is h0) (lModel_person h0) ((lModel_person_L h0)).1 dX8_change_18 ?_
      refine lv_iload_n hx hb dX8_change_21 rfl (lv_at hl 2 rfl) ?_
      refine nc_ald cx hw (by decide) ((lModel_person_L h0)).1 ij5 ej5 (((lModel_person_L h0)).2 j5 lj5).1 (((lModel_person_L h0)).2 j5 lj5).2 dX8_change_22 ?_
      refine lv_iload_n hx hb dX8_change_23 rfl (lv_at hl 4 rfl) ?_
      refine lv_aload_n hx hb dX8_change_24 rfl (lv_at hl 1 rfl) ?_
      refine gr_X8_28 cx hw (lModel_is h0) (lModel_person h0) ((lModel_person_L h0)).1 dX8_change_25 ?_
      refine lv_iload_n hx hb dX8_change_28 rfl (lv_at hl 3 rfl) ?_
      obtain ⟨j8, ej8, ij8, lj8, hf⟩ := nc_ix hf
      refine nc_ald cx hw (by decide) ((lModel_person_L h0)).1 ij8 ej8 (((lModel_person_L h0)).2 j8 lj8).1 (((lModel_person_L h0)).2 j8 lj8).2 dX8_change_29 ?_
      refine lv_iload_n hx hb dX8_change_30 rfl (lv_at hl 4 rfl) ?_
      refine nc_ild cx hw (((lModel_person_L h0)).2 j8 lj8).2 ij6 ej6 dX8_change_31 ?_
      refine nc_ist cx hw (((lModel_person_L h0)).2 j5 lj5).2 ij6 ej6 dX8_change_32 (fun mi9 H locs emi9 hw => ?_)
      have hf := nc_let_at hf emi9
      refine lv_aload_n hx hb dX8_change_33 rfl (lv_at hl 1 rfl) ?_
      refine gr_X8_28 cx hw (lModel_is h0) (lModel_person h0) ((lModel_person_L h0)).1 dX8_change_34 ?_
      refine lv_iload_n hx hb dX8_change_37 rfl (lv_at hl 3 rfl) ?_
      refine nc_ald cx hw (by decide) ((lModel_person_L h0)).1 ij8 ej8 (((lModel_person_L h0)).2 j8 lj8).1 (((lModel_person_L h0)).2 j8 lj8).2 dX8_change_38 ?_
      refine lv_iload_n hx hb dX8_change_39 rfl (lv_at hl 4 rfl) ?_
      refine lv_iload hx hb dX8_change_40 (lv_at hl 0 rfl) ?_
      refine nc_ist cx hw (((lModel_person_L h0)).2 j8 lj8).2 ij6 ej6 dX8_change_42 (fun mi10 H locs emi10 hw => ?_)
      have hf := nc_let_at hf emi10
      obtain ⟨x11, ex11⟩ : ∃ y : Int32, y = x1 + 1 := ⟨_, rfl⟩
      have hf := nc_let_at hf ex11
      refine lv_iinc (v := x11) (lv' := [(3, .int x11), (4, .int x7), (0, .ref o), (1, .int a1), (2, .int a2)]) hx hb dX8_change_43 hl (k := 4) rfl (by rw [ex11]; rfl) (by decide) rfl (fun ls hl => ?_)
      refine lv_goto (tgt := 2) hx hb dX8_change_46 (by decide) ?_
      exact ihrc3 _ _ hf _ _ _ hw (lv_sub hl [2, 3, 4, 0] rfl)
abbrev rm_X8_houses : Room := { frames := 6, cells := 0, slots := 0, locals := 150 }
set_option maxRecDepth 100000 in
set_option maxHeartbeats 4000000 in
theorem c_X8_houses (l : Launch) {G : nc_G} {K : nc_K} {o : Nat} (h0 : nc_LModel G K o) (mi : nc_Mem)  (res : nc_Mem × Int32) (hf : f_X8_houses mi o = some res) : nc_M l yX8_houses cX8_houses 6 (some .int) rm_X8_houses 0 0 G K K [.ref o] mi res.1 (some (.int res.2)) := by
  refine nc_meet_i (by decide) (Nat.le_of_ble_eq_true rfl) ?_
  intro p e s m args below meth c Q H locs ls cx hret hw hl
  have cx : nc_C p s m args c cX8_houses 6 RX8 G := cx
  have hl : lv_has ls 6 [(0, .ref o)] := hl
  have hx := cx.1
  have hb := cx.2.1
  unfold f_X8_houses at hf
  refine lv_aload_n hx hb dX8_houses_0 rfl (lv_at hl 0 rfl) ?_
  refine lv_aload_n hx hb dX8_houses_1 rfl (lv_at hl 0 rfl) ?_
  refine gi_X8_148 cx hw (lModel_is h0) dX8_houses_2 ?_
  obtain ⟨q1, hq1, hf⟩ := nc_bi hf
  refine nc_callVi cx hw lk_X8_221 (c_X8_sumBy l h0 mi (mi o 11) q1 hq1) (ci := 8) rfl (lModel_is h0) rfl hl.1 rfl (Nat.le_of_ble_eq_true rfl) ⟨rfl, rfl, Nat.le_of_ble_eq_true rfl, Nat.le_of_ble_eq_true rfl⟩ dX8_houses_5 (fun H locs hw => ?_)
  refine lv_istore_n (lv' := [(1, .int q1.2), (0, .ref o)]) hx hb dX8_houses_8 rfl hl (by decide) rfl (fun ls hl => ?_)
  refine lv_bipush (v := (-9)) hx hb dX8_houses_9 (by decide) ?_
  refine lv_istore_n (lv' := [(2, .int (-9)), (1, .int q1.2), (0, .ref o)]) hx hb dX8_houses_11 rfl hl (by decide) rfl (fun ls hl => ?_)
  refine lv_iconst (v := 0) hx hb dX8_houses_12 (by decide) ?_
  refine lv_istore_n (lv' := [(3, .int 0), (2, .int (-9)), (1, .int q1.2), (0, .ref o)]) hx hb dX8_houses_13 rfl hl (by decide) rfl (fun ls hl => ?_)
  refine nc_loop_w (P := fun κ : Int32 → Int32 → Int32 → nc_Mem → Option (nc_Mem × Int32) => ∀ (x2 : Int32) (x3 : Int32) (x4 : Int32) (mi5 : nc_Mem), κ x2 x3 x4 mi5 = some res → ∀ (H : Heap) (locs : List Loc) (ls : Array Slot), nc_W G K mi5 H locs → lv_has ls 6 [(0, .ref o), (1, .int x2), (2, .int x3), (3, .int x4)] → W p l e rm_X8_houses s m args below meth c H locs 0 0 Q (F0 m 14 ls [])) ?_ ?_ 200 _ _ _ _ hf _ _ _ hw (lv_sub hl [3, 2, 1, 0] rfl)
  · intro x2 x3 x4 mi5 hf; exact absurd hf (by intro q; cases q)
  · intro rc6 ihrc6 x2 x3 x4 mi5 hf H locs ls hw hl
    unfold B_X8_houses_14 at hf
    refine lv_iload_n hx hb dX8_houses_14 rfl (lv_at hl 3 rfl) ?_
    refine lv_aload_n hx hb dX8_houses_15 rfl (lv_at hl 0 rfl) ?_
    refine gi_X8_65 cx hw (lModel_is h0) dX8_houses_16 ?_
    refine lv_icmp_ge (tgt := 89) hx hb dX8_houses_19 (by decide) (fun c7 => ?_) (fun c7 => ?_)
    · have hf := nc_ifp hf c7
      refine lv_iload_n hx hb dX8_houses_89 rfl (lv_at hl 2 rfl) ?_
      exact nc_rpm hret hf rfl hw dX8_houses_90
    · have hf := nc_ifn hf c7
      refine lv_iload_n hx hb dX8_houses_22 rfl (lv_at hl 3 rfl) ?_
      refine lv_iconst (v := 1) hx hb dX8_houses_23 (by decide) ?_
      refine lv_iadd hx hb dX8_houses_24 ?_
      refine lv_topi (fun x8 ex8 => ?_)
      have hf := nc_let_at hf ex8
      refine lv_istore (lv' := [(4, .int x8), (0, .ref o), (1, .int x2), (2, .int x3), (3, .int x4)]) hx hb dX8_houses_25 hl (by decide) rfl (fun ls hl => ?_)
      refine nc_loop_w (P := fun κ : Int32 → Int32 → Int32 → nc_Mem → Option (nc_Mem × Int32) => ∀ (x9 : Int32) (x10 : Int32) (x11 : Int32) (mi12 : nc_Mem), κ x9 x10 x11 mi12 = some res → ∀ (H : Heap) (locs : List Loc) (ls : Array Slot), nc_W G K mi12 H locs → lv_has ls 6 [(0, .ref o), (1, .int x9), (2, .int x10), (3, .int x4), (4, .int x11)] → W p l e rm_X8_houses s m args below meth c H locs 0 0 Q (F0 m 27 ls [])) ?_ ?_ 200 _ _ _ _ hf _ _ _ hw (lv_sub hl [1, 2, 3, 4, 0] rfl)
      · intro x9 x10 x11 mi12 hf; exact absurd hf (by intro q; cases q)
      · intro rc13 ihrc13 x9 x10 x11 mi12 hf H locs ls hw hl
        unfold B_X8_houses_27 at hf
        refine lv_iload hx hb dX8_houses_27 (lv_at hl 4 rfl) ?_
        refine lv_aload_n hx hb dX8_houses_29 rfl (lv_at hl 0 rfl) ?_
        refine gi_X8_65 cx hw (lModel_is h0) dX8_houses_30 ?_
        refine lv_icmp_ge (tgt := 83) hx hb dX8_houses_33 (by decide) (fun c14 => ?_) (fun c14 => ?_)
        · have hf := nc_ifp hf c14
          obtain ⟨x15, ex15⟩ : ∃ y : Int32, y = x4 + 1 := ⟨_, rfl⟩
          have hf := nc_let_at hf ex15
          refine lv_iinc (v := x15) (lv' := [(3, .int x15), (0, .ref o), (1, .int x9), (2, .int x10), (4, .int x11)]) hx hb dX8_houses_83 hl (k := 3) rfl (by rw [ex15]; rfl) (by decide) rfl (fun ls hl => ?_)
          refine lv_goto (tgt := 14) hx hb dX8_houses_86 (by decide) ?_
          exact ihrc6 _ _ _ _ hf _ _ _ hw (lv_sub hl [1, 2, 3, 0] rfl)
        · have hf := nc_ifn hf c14
          refine lv_aload_n hx hb dX8_houses_36 rfl (lv_at hl 0 rfl) ?_
          refine lv_iload_n hx hb dX8_houses_37 rfl (lv_at hl 3 rfl) ?_
          refine lv_iload hx hb dX8_houses_38 (lv_at hl 4 rfl) ?_
          obtain ⟨q16, hq16, hf⟩ := nc_bi hf
          refine nc_callVv cx hw lk_X8_224 (c_X8_change l h0 mi12 x4 x11 q16 hq16) (ci := 8) rfl (lModel_is h0) rfl hl.1 rfl (Nat.le_of_ble_eq_true rfl) ⟨rfl, rfl, Nat.le_of_ble_eq_true rfl, Nat.le_of_ble_eq_true rfl⟩ dX8_houses_40 (fun H locs hw => ?_)
          refine lv_aload_n hx hb dX8_houses_43 rfl (lv_at hl 0 rfl) ?_
          refine lv_aload_n hx hb dX8_houses_44 rfl (lv_at hl 0 rfl) ?_
          refine gi_X8_148 cx hw (lModel_is h0) dX8_houses_45 ?_
          obtain ⟨q17, hq17, hf⟩ := nc_bi hf
          refine nc_callVi cx hw lk_X8_221 (c_X8_sumBy l h0 q16 (q16 o 11) q17 hq17) (ci := 8) rfl (lModel_is h0) rfl hl.1 rfl (Nat.le_of_ble_eq_true rfl) ⟨rfl, rfl, Nat.le_of_ble_eq_true rfl, Nat.le_of_ble_eq_true rfl⟩ dX8_houses_48 (fun H locs hw => ?_)
          refine lv_istore (lv' := [(5, .int q17.2), (0, .ref o), (1, .int x9), (2, .int x10), (3, .int x4), (4, .int x11)]) hx hb dX8_houses_51 hl (by decide) rfl (fun ls hl => ?_)
          refine lv_aload_n hx hb dX8_houses_53 rfl (lv_at hl 1 rfl) ?_
          refine lv_iload_n hx hb dX8_houses_54 rfl (lv_at hl 4 rfl) ?_
          refine lv_iload hx hb dX8_houses_55 (lv_at hl 5 rfl) ?_
          obtain ⟨q18, hq18, hf⟩ := nc_bi hf
          refine nc_callVv cx hw lk_X8_224 (c_X8_change l h0 q17.1 x4 x11 q18 hq18) (ci := 8) rfl (lModel_is h0) rfl hl.1 rfl (Nat.le_of_ble_eq_true rfl) ⟨rfl, rfl, Nat.le_of_ble_eq_true rfl, Nat.le_of_ble_eq_true rfl⟩ dX8_houses_57 (fun H locs hw => ?_)
          refine lv_iload hx hb dX8_houses_60 (lv_at hl 0 rfl) ?_
          refine lv_iload_n hx hb dX8_houses_62 rfl (lv_at hl 2 rfl) ?_
          refine lv_icmp_ge (tgt := 77) hx hb dX8_houses_63 (by decide) (fun c19 => ?_) (fun c19 => ?_)
          · have hf := nc_ifp hf c19
            obtain ⟨x20, ex20⟩ : ∃ y : Int32, y = x11 + 1 := ⟨_, rfl⟩
            have hf := nc_let_at hf ex20
            refine lv_iinc (v := x20) (lv' := [(4, .int x20), (5, .int q17.2), (0, .ref o), (1, .int x9), (2, .int x10), (3, .int x4)]) hx hb dX8_houses_77 hl (k := 5) rfl (by rw [ex20]; rfl) (by decide) rfl (fun ls hl => ?_)
            refine lv_goto (tgt := 27) hx hb dX8_houses_80 (by decide) ?_
            exact ihrc13 _ _ _ _ hf _ _ _ hw (lv_sub hl [2, 3, 4, 5, 0] rfl)
          · have hf := nc_ifn hf c19
            refine lv_iload hx hb dX8_houses_66 (lv_at hl 0 rfl) ?_
            refine lv_istore_n (lv' := [(1, .int q17.2), (5, .int q17.2), (0, .ref o), (2, .int x10), (3, .int x4), (4, .int x11)]) hx hb dX8_houses_68 rfl hl (by decide) rfl (fun ls hl => ?_)
            refine lv_bipush (v := 10) hx hb dX8_houses_69 (by decide) ?_
            refine lv_iload_n hx hb dX8_houses_71 rfl (lv_at hl 4 rfl) ?_
            refine lv_imul hx hb dX8_houses_72 ?_
            refine lv_iload hx hb dX8_houses_73 (lv_at hl 5 rfl) ?_
            refine lv_iadd hx hb dX8_houses_75 ?_
            refine lv_topi (fun x21 ex21 => ?_)
            have hf := nc_let_at hf ex21
            refine lv_istore_n (lv' := [(2, .int x21), (1, .int q17.2), (5, .int q17.2), (0, .ref o), (3, .int x4), (4, .int x11)]) hx hb dX8_houses_76 rfl hl (by decide) rfl (fun ls hl => ?_)
            obtain ⟨x22, ex22⟩ : ∃ y : Int32, y = x11 + 1 := ⟨_, rfl⟩
            have hf := nc_let_at hf ex22
            refine lv_iinc (v := x22) (lv' := [(4, .int x22), (2, .int x21), (1, .int q17.2), (5, .int q17.2), (0, .ref o), (3, .int x4)]) hx hb dX8_houses_77 hl (k := 5) rfl (by rw [ex22]; rfl) (by decide) rfl (fun ls hl => ?_)
            refine lv_goto (tgt := 27) hx hb dX8_houses_80 (by decide) ?_
            exact ihrc13 _ _ _ _ hf _ _ _ hw (lv_sub hl [4, 2, 1, 5, 0] rfl)
abbrev rm_X8_draw : Room := { frames := 0, cells := 0, slots := 0, locals := 0 }
set_option maxRecDepth 100000 in
set_option maxHeartbeats 4000000 in
theorem c_X8_draw (l : Launch) {G : nc_G} {K : nc_K} {o : Nat} (h0 : nc_LModel G K o) (mi : nc_Mem) (a1 : Int32) (res : nc_Mem × Int32) (hf : f_X8_draw mi o a1 = some res) : nc_M l yX8_draw cX8_draw 2 (some .int) rm_X8_draw 0 0 G K K [.ref o, .int a1] mi res.1 (some (.int res.2)) := by
  refine nc_meet_i (by decide) (Nat.le_of_ble_eq_true rfl) ?_
  intro p e s m args below meth c Q H locs ls cx hret hw hl
  have cx : nc_C p s m args c cX8_draw 2 RX8 G := cx
  have hl : lv_has ls 2 [(0, .ref o), (1, .int a1)] := hl
  have hx := cx.1
  have hb := cx.2.1
  unfold f_X8_draw at hf
  refine lv_aload_n hx hb dX8_draw_0 rfl (lv_at hl 0 rfl) ?_
  refine lv_aload_n hx hb dX8_draw_1 rfl (lv_at hl 0 rfl) ?_
  refine gi_X8_228 cx hw (lModel_is h0) dX8_draw_2 ?_
  refine nc_ldc (v := 1664525) cx kc_X8_231 dX8_draw_5 ?_
  refine lv_imul hx hb dX8_draw_7 ?_
  refine nc_ldc (v := 1013904223) cx kc_X8_232 dX8_draw_8 ?_
  refine lv_iadd hx hb dX8_draw_10 ?_
  refine pi_X8_228 cx hw (lModel_is h0) dX8_draw_11 (fun mi1 H locs emi1 hw => ?_)
  have hf := nc_let_at hf emi1
  refine lv_aload_n hx hb dX8_draw_14 rfl (lv_at hl 0 rfl) ?_
  refine gi_X8_228 cx hw (lModel_is h0) dX8_draw_15 ?_
  refine nc_ldc (v := 2147483647) cx kc_X8_233 dX8_draw_18 ?_
  refine lv_iand hx hb dX8_draw_20 ?_
  refine lv_sipush (v := 256) hx hb dX8_draw_21 (by decide) ?_
  refine lv_idiv hx hb dX8_draw_24 (by decide) ?_
  refine lv_iload_n hx hb dX8_draw_25 rfl (lv_at hl 1 rfl) ?_
  obtain ⟨hz1, hf⟩ := nc_nz_of hf
  refine lv_irem hx hb dX8_draw_26 hz1 ?_
  exact nc_rpm hret hf rfl hw dX8_draw_27
abbrev rm_X8_row : Room := { frames := 1, cells := 0, slots := 0, locals := 21 }
set_option maxRecDepth 100000 in
set_option maxHeartbeats 4000000 in
theorem c_X8_row (l : Launch) {G : nc_G} {K : nc_K} {o : Nat} (h0 : nc_LModel G K o) (mi : nc_Mem) (a1 : Int32) (res : nc_Mem × Int32) (hf : f_X8_row mi o a1 = some res) : nc_M l yX8_row cX8_row 2 (some .int) rm_X8_row 0 0 G K K [.ref o, .int a1] mi res.1 (some (.int res.2)) := by
  refine nc_meet_i (by decide) (Nat.le_of_ble_eq_true rfl) ?_
  intro p e s m args below meth c Q H locs ls cx hret hw hl
  have cx : nc_C p s m args c cX8_row 2 RX8 G := cx
  have hl : lv_has ls 2 [(0, .ref o), (1, .int a1)] := hl
  have hx := cx.1
  have hb := cx.2.1
  unfold f_X8_row at hf
  refine lv_iload_n hx hb dX8_row_0 rfl (lv_at hl 1 rfl) ?_
  refine lv_if_ge (tgt := 11) hx hb dX8_row_1 (by decide) (fun c1 => ?_) (fun c1 => ?_)
  · have hf := nc_ifp hf c1
    refine lv_iload_n hx hb dX8_row_11 rfl (lv_at hl 1 rfl) ?_
    refine lv_bipush (v := 9) hx hb dX8_row_12 (by decide) ?_
    obtain ⟨k2, ek2, hf⟩ := nc_jn_of hf
    have hk2 : k2 = some res → ∀ (H : Heap) (locs : List Loc) (ls : Array Slot), nc_W G K mi H locs → lv_has ls 2 [(0, .ref o)] → W p l e rm_X8_row s m args below meth c H locs 0 0 Q (F0 m 26 ls []) := by
      intro hf H locs ls hw hl
      have hf := (ek2).symm.trans hf
      refine lv_aload_n hx hb dX8_row_26 rfl (lv_at hl 0 rfl) ?_
      refine lv_bipush (v := (-6)) hx hb dX8_row_27 (by decide) ?_
      obtain ⟨q3, hq3, hf⟩ := nc_bi hf
      refine nc_callVi cx hw lk_X8_71 (c_X8_refuse l h0 mi (-6) q3 hq3) (ci := 8) rfl (lModel_is h0) rfl hl.1 rfl (Nat.le_of_ble_eq_true rfl) ⟨rfl, rfl, Nat.le_of_ble_eq_true rfl, Nat.le_of_ble_eq_true rfl⟩ dX8_row_29 (fun H locs hw => ?_)
      exact nc_rpm hret hf rfl hw dX8_row_32
    refine lv_icmp_gt (tgt := 26) hx hb dX8_row_14 (by decide) (fun c4 => ?_) (fun c4 => ?_)
    · have hf := nc_ifp hf c4
      exact hk2 hf _ _ _ hw (lv_sub hl [0] rfl)
    · have hf := nc_ifn hf c4
      refine lv_aload_n hx hb dX8_row_17 rfl (lv_at hl 0 rfl) ?_
      refine gi_X8_240 cx hw (lModel_is h0) dX8_row_18 ?_
      refine lv_bipush (v := 6) hx hb dX8_row_21 (by decide) ?_
      refine lv_icmp_ne (tgt := 33) hx hb dX8_row_23 (by decide) (fun c5 => ?_) (fun c5 => ?_)
      · have hf := nc_ifn hf c5
        refine lv_aload_n hx hb dX8_row_33 rfl (lv_at hl 0 rfl) ?_
        refine gr_X8_13 cx hw (lModel_is h0) (lModel_told h0) (lModel_told_L h0) dX8_row_34 ?_
        refine lv_aload_n hx hb dX8_row_37 rfl (lv_at hl 0 rfl) ?_
        refine lv_dup hx hb dX8_row_38 rfl ?_
        refine gi_X8_240 cx hw (lModel_is h0) dX8_row_39 ?_
        refine lv_dup_x1 hx hb dX8_row_42 rfl rfl ?_
        refine lv_iconst (v := 1) hx hb dX8_row_43 (by decide) ?_
        refine lv_iadd hx hb dX8_row_44 ?_
        refine pi_X8_240 cx hw (lModel_is h0) dX8_row_45 (fun mi6 H locs emi6 hw => ?_)
        have hf := nc_let_at hf emi6
        refine lv_iload_n hx hb dX8_row_48 rfl (lv_at hl 1 rfl) ?_
        obtain ⟨j7, ej7, ij7, lj7, hf⟩ := nc_ix hf
        refine nc_ist cx hw (lModel_told_L h0) ij7 ej7 dX8_row_49 (fun mi8 H locs emi8 hw => ?_)
        have hf := nc_let_at hf emi8
        refine lv_aload_n hx hb dX8_row_50 rfl (lv_at hl 0 rfl) ?_
        refine gi_X8_240 cx hw (lModel_is h0) dX8_row_51 ?_
        exact nc_rpm hret hf rfl hw dX8_row_54
      · have hf := nc_ifp hf c5
        exact hk2 hf _ _ _ hw (lv_sub hl [0] rfl)
  · have hf := nc_ifn hf c1
    refine lv_aload_n hx hb dX8_row_4 rfl (lv_at hl 0 rfl) ?_
    refine lv_bipush (v := (-4)) hx hb dX8_row_5 (by decide) ?_
    obtain ⟨q9, hq9, hf⟩ := nc_bi hf
    refine nc_callVi cx hw lk_X8_71 (c_X8_refuse l h0 mi (-4) q9 hq9) (ci := 8) rfl (lModel_is h0) rfl hl.1 rfl (Nat.le_of_ble_eq_true rfl) ⟨rfl, rfl, Nat.le_of_ble_eq_true rfl, Nat.le_of_ble_eq_true rfl⟩ dX8_row_7 (fun H locs hw => ?_)
    exact nc_rpm hret hf rfl hw dX8_row_10
