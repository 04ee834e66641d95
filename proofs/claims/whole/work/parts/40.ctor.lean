theorem nc_lk_fresh {RN : List (Nat × Nat × Nat)} {o : Nat} : ∀ {j : Nat}, (RN.take j).all (fun q => !(q.1 == o)) = true → ∀ k, nc_lk RN o k j = 0
  | 0, _, _ => rfl
  | j + 1, h, k => by
    have h1 : (RN.take j).all (fun q => !(q.1 == o)) = true := by
      rw [List.all_eq_true] at h ⊢
      exact fun q hq => h q (List.take_subset_take_left RN (Nat.le_succ j) hq)
    cases hj : RN[j]? with
    | none =>
      show (match RN[j]? with
        | some q => if q.1 = o ∧ q.2.1 = k then q.2.2 + 1 else nc_lk RN o k j
        | none => nc_lk RN o k j) = 0
      rw [hj]
      exact nc_lk_fresh h1 k
    | some q =>
      rw [nc_lk_s hj, if_neg ?_]
      · exact nc_lk_fresh h1 k
      · intro e
        rw [List.all_eq_true] at h
        have hm : q ∈ RN.take (j + 1) := by
          rw [List.take_add_one, hj]
          simp
        have := h q hm
        simp [e.1] at this
theorem nc_all6 {P : Nat → Prop} (h0 : P 0) (h1 : P 1) (h2 : P 2) (h3 : P 3) (h4 : P 4) (h5 : P 5) : ∀ j, j < 6 → P j := fun j hj => by
  rcases (show j = 0 ∨ j = 1 ∨ j = 2 ∨ j = 3 ∨ j = 4 ∨ j = 5 by omega) with rfl | rfl | rfl | rfl | rfl | rfl <;> assumption
theorem nc_all7 {P : Nat → Prop} (h0 : P 0) (h1 : P 1) (h2 : P 2) (h3 : P 3) (h4 : P 4) (h5 : P 5) (h6 : P 6) : ∀ j, j < 7 → P j := fun j hj => by
  rcases (show j = 0 ∨ j = 1 ∨ j = 2 ∨ j = 3 ∨ j = 4 ∨ j = 5 ∨ j = 6 by omega) with rfl | rfl | rfl | rfl | rfl | rfl | rfl <;> assumption
def nc_SN : List (Nat × Nat) := [(7, 10), (5, 8), (10, 6), (11, 6), (9, 49), (9, 49), (3, 7), (3, 7), (3, 7), (3, 7), (3, 7), (3, 7), (4, 10), (4, 10), (4, 10), (4, 10), (4, 10), (4, 10), (5, 8), (10, 6), (11, 6), (9, 49), (9, 49), (3, 7), (3, 7), (3, 7), (3, 7), (3, 7), (3, 7), (4, 10), (4, 10), (4, 10), (4, 10), (4, 10), (4, 10), (5, 8), (10, 6), (11, 6), (9, 49), (9, 49), (3, 7), (3, 7), (3, 7), (3, 7), (3, 7), (3, 7), (4, 10), (4, 10), (4, 10), (4, 10), (4, 10), (4, 10), (1, 4), (9, 64), (9, 7), (2, 8), (12, 6), (9, 7), (9, 7), (6, 3), (9, 7), (9, 7), (6, 3), (9, 7), (9, 7), (6, 3), (9, 7), (9, 7), (6, 3), (9, 7), (9, 7), (6, 3), (9, 7), (9, 7), (6, 3), (9, 7), (9, 7), (0, 2), (9, 36), (9, 448), (9, 6), (9, 7)]
def nc_RN : List (Nat × Nat × Nat) := [(1, 0, 2), (1, 1, 3), (1, 2, 4), (1, 3, 5), (2, 0, 6), (2, 1, 7), (2, 2, 8), (2, 3, 9), (2, 4, 10), (2, 5, 11), (3, 0, 12), (3, 1, 13), (3, 2, 14), (3, 3, 15), (3, 4, 16), (3, 5, 17), (0, 0, 1), (18, 0, 19), (18, 1, 20), (18, 2, 21), (18, 3, 22), (19, 0, 23), (19, 1, 24), (19, 2, 25), (19, 3, 26), (19, 4, 27), (19, 5, 28), (20, 0, 29), (20, 1, 30), (20, 2, 31), (20, 3, 32), (20, 4, 33), (20, 5, 34), (0, 1, 18), (35, 0, 36), (35, 1, 37), (35, 2, 38), (35, 3, 39), (36, 0, 40), (36, 1, 41), (36, 2, 42), (36, 3, 43), (36, 4, 44), (36, 5, 45), (37, 0, 46), (37, 1, 47), (37, 2, 48), (37, 3, 49), (37, 4, 50), (37, 5, 51), (0, 2, 35), (52, 0, 53), (52, 1, 54), (0, 3, 52), (55, 1, 56), (55, 2, 57), (55, 3, 58), (55, 0, 1), (59, 0, 60), (59, 1, 61), (56, 0, 59), (62, 0, 63), (62, 1, 64), (56, 1, 62), (65, 0, 66), (65, 1, 67), (56, 2, 65), (68, 0, 69), (68, 1, 70), (56, 3, 68), (71, 0, 72), (71, 1, 73), (56, 4, 71), (74, 0, 75), (74, 1, 76), (56, 5, 74), (0, 4, 55), (77, 0, 78), (77, 1, 79), (0, 5, 77), (0, 6, 80), (0, 7, 81)]
def nc_SM : List (Nat × Nat) := [(8, 28), (9, 64), (9, 6), (9, 8), (13, 7), (9, 7), (9, 7), (9, 7), (9, 7), (9, 7), (9, 7), (9, 7), (13, 6), (9, 7), (9, 7), (9, 7), (9, 7), (9, 7), (9, 7), (13, 6), (9, 10), (9, 10), (9, 10), (9, 10), (9, 10), (9, 10), (9, 7), (13, 7), (9, 7), (9, 7), (9, 7), (9, 7), (9, 7), (9, 7), (9, 7), (13, 6), (9, 7), (9, 7), (9, 7), (9, 7), (9, 7), (9, 7), (13, 6), (9, 7), (9, 7), (9, 7), (9, 7), (9, 7), (9, 7), (9, 6), (9, 7), (9, 7), (9, 6), (9, 6)]
def nc_RM : List (Nat × Nat × Nat) := [(0, 0, 1), (0, 2, 2), (0, 4, 3), (4, 0, 5), (4, 1, 6), (4, 2, 7), (4, 3, 8), (4, 4, 9), (4, 5, 10), (4, 6, 11), (0, 6, 4), (12, 0, 13), (12, 1, 14), (12, 2, 15), (12, 3, 16), (12, 4, 17), (12, 5, 18), (0, 8, 12), (19, 0, 20), (19, 1, 21), (19, 2, 22), (19, 3, 23), (19, 4, 24), (19, 5, 25), (0, 10, 19), (0, 15, 26), (27, 0, 28), (27, 1, 29), (27, 2, 30), (27, 3, 31), (27, 4, 32), (27, 5, 33), (27, 6, 34), (0, 18, 27), (35, 0, 36), (35, 1, 37), (35, 2, 38), (35, 3, 39), (35, 4, 40), (35, 5, 41), (0, 19, 35), (42, 0, 43), (42, 1, 44), (42, 2, 45), (42, 3, 46), (42, 4, 47), (42, 5, 48), (0, 20, 42), (0, 21, 49), (0, 22, 50), (0, 23, 51), (0, 24, 52), (0, 25, 53)]
theorem wa_int : Cond.arrayClass .int ∈ nc_U := nc_w 141 (by decide +kernel) rfl
theorem wo_i : Cond.instanceMethod objectInit ∈ nc_U := nc_w 91 (by decide +kernel) rfl
theorem wo_c : Cond.code objectInit ⟨#[0xb1]⟩ 1 none ∈ nc_U := nc_w 92 (by decide +kernel) rfl
theorem oi_X7 : Cond.methodLink RX7 1 objectInit ∈ nc_U := nc_w 90 (by decide +kernel) rfl
theorem cl_X7_7 : Cond.classLink RX7 7 RX5 ∈ nc_U := nc_w 93 (by decide +kernel) rfl
theorem wn_X5 : Cond.instantiable RX5 8 ∈ nc_U := nc_w 94 (by decide +kernel) rfl
theorem oi_X5 : Cond.methodLink RX5 3 objectInit ∈ nc_U := nc_w 98 (by decide +kernel) rfl
theorem cl_X5_9 : Cond.classLink RX5 9 RX3 ∈ nc_U := nc_w 99 (by decide +kernel) rfl
theorem cl_X5_17 : Cond.classLink RX5 17 RX4 ∈ nc_U := nc_w 101 (by decide +kernel) rfl
theorem wn_X3 : Cond.instantiable RX3 7 ∈ nc_U := nc_w 103 (by decide +kernel) rfl
theorem oi_X3 : Cond.methodLink RX3 1 objectInit ∈ nc_U := nc_w 107 (by decide +kernel) rfl
theorem wn_X4 : Cond.instantiable RX4 10 ∈ nc_U := nc_w 142 (by decide +kernel) rfl
theorem oi_X4 : Cond.methodLink RX4 1 objectInit ∈ nc_U := nc_w 146 (by decide +kernel) rfl
theorem cl_X7_22 : Cond.classLink RX7 22 RX1 ∈ nc_U := nc_w 246 (by decide +kernel) rfl
theorem wn_X1 : Cond.instantiable RX1 4 ∈ nc_U := nc_w 247 (by decide +kernel) rfl
theorem oi_X1 : Cond.methodLink RX1 3 objectInit ∈ nc_U := nc_w 251 (by decide +kernel) rfl
theorem cl_X7_29 : Cond.classLink RX7 29 RX2 ∈ nc_U := nc_w 268 (by decide +kernel) rfl
theorem wn_X2 : Cond.instantiable RX2 8 ∈ nc_U := nc_w 269 (by decide +kernel) rfl
theorem oi_X2 : Cond.methodLink RX2 3 objectInit ∈ nc_U := nc_w 273 (by decide +kernel) rfl
theorem cl_X2_9 : Cond.classLink RX2 9 RX6 ∈ nc_U := nc_w 274 (by decide +kernel) rfl
theorem wn_X6 : Cond.instantiable RX6 3 ∈ nc_U := nc_w 276 (by decide +kernel) rfl
theorem oi_X6 : Cond.methodLink RX6 3 objectInit ∈ nc_U := nc_w 280 (by decide +kernel) rfl
theorem cl_X7_38 : Cond.classLink RX7 38 RX0 ∈ nc_U := nc_w 321 (by decide +kernel) rfl
theorem wn_X0 : Cond.instantiable RX0 2 ∈ nc_U := nc_w 322 (by decide +kernel) rfl
theorem oi_X0 : Cond.methodLink RX0 3 objectInit ∈ nc_U := nc_w 326 (by decide +kernel) rfl
theorem oi_X8 : Cond.methodLink RX8 1 objectInit ∈ nc_U := nc_w 853 (by decide +kernel) rfl
theorem cl_X8_23 : Cond.classLink RX8 23 "[[I" ∈ nc_U := nc_w 854 (by decide +kernel) rfl
theorem li_X7_9 : nc_LI RX7 9 yX5_init cX5_init 2 0 := ⟨nc_w 95 (by decide +kernel) rfl, wm_X5_init, wi_X5, wc_X5_init, rfl, by decide +kernel⟩
theorem ln_X5_34 : nc_LN RX5 34 yX3_init cX3_init 1 0 := ⟨by decide +kernel, wm_X3_init, wi_X3, wc_X3_init, rfl, by decide +kernel⟩
theorem ln_X5_35 : nc_LN RX5 35 yX4_init cX4_init 1 0 := ⟨by decide +kernel, wm_X4_init, wi_X4, wc_X4_init, rfl, by decide +kernel⟩
theorem ln_X7_24 : nc_LN RX7 24 yX1_init cX1_init 1 0 := ⟨by decide +kernel, wm_X1_init, wi_X1, wc_X1_init, rfl, by decide +kernel⟩
theorem li_X7_31 : nc_LI RX7 31 yX2_init cX2_init 3 1 := ⟨nc_w 270 (by decide +kernel) rfl, wm_X2_init, wi_X2, wc_X2_init, rfl, by decide +kernel⟩
theorem ln_X2_28 : nc_LN RX2 28 yX6_init cX6_init 1 0 := ⟨by decide +kernel, wm_X6_init, wi_X6, wc_X6_init, rfl, by decide +kernel⟩
theorem ln_X7_40 : nc_LN RX7 40 yX0_init cX0_init 1 0 := ⟨by decide +kernel, wm_X0_init, wi_X0, wc_X0_init, rfl, by decide +kernel⟩
abbrev rm_cn_X3_init_6 : Room := { frames := 1, cells := 0, slots := 0, locals := 40 }
set_option maxRecDepth 100000 in
set_option maxHeartbeats 4000000 in
theorem cn_X3_init_6 (l : Launch) {G : nc_G} {K0 : nc_K} (hB : G.2.2.1 ≤ K0.1) (mi : nc_Mem)   : nc_M l yX3_init cX3_init 1 none rm_cn_X3_init_6 0 0 G (nc_kt nc_SN nc_RN K0 7 4) (nc_kt nc_SN nc_RN K0 7 4) [.ref (K0.1 + 6)] mi mi none := by
  refine nc_meet_n (by decide) (Nat.le_of_ble_eq_true rfl) ?_
  intro p e s m args below meth c ls H cx hin hr hlocks hw hl
  have cx : nc_C p s m args c cX3_init 1 RX3 G := cx
  have hin : meth.name = "<init>" := hin
  have hl : lv_has ls 1 [(0, .ref (K0.1 + 6))] := hl
  have hx := cx.1
  have hb := cx.2.1
  refine lv_aload_n hx hb dX3_init_0 rfl (lv_at hl 0 rfl) ?_
  refine nc_oi cx hl.1 oi_X3 wo_i wo_c ⟨Nat.le_of_ble_eq_true rfl, Nat.le_of_ble_eq_true rfl⟩ dX3_init_1 ?_
  exact nc_vretK cx hw hr hlocks ⟨rfl, rfl⟩ ⟨Nat.le_of_ble_eq_true rfl, Nat.le_of_ble_eq_true rfl⟩ dX3_init_4
abbrev rm_cn_X3_init_7 : Room := { frames := 1, cells := 0, slots := 0, locals := 40 }
set_option maxRecDepth 100000 in
set_option maxHeartbeats 4000000 in
theorem cn_X3_init_7 (l : Launch) {G : nc_G} {K0 : nc_K} (hB : G.2.2.1 ≤ K0.1) (mi : nc_Mem)   : nc_M l yX3_init cX3_init 1 none rm_cn_X3_init_7 0 0 G (nc_kt nc_SN nc_RN K0 8 5) (nc_kt nc_SN nc_RN K0 8 5) [.ref (K0.1 + 7)] mi mi none := by
  refine nc_meet_n (by decide) (Nat.le_of_ble_eq_true rfl) ?_
  intro p e s m args below meth c ls H cx hin hr hlocks hw hl
  have cx : nc_C p s m args c cX3_init 1 RX3 G := cx
  have hin : meth.name = "<init>" := hin
  have hl : lv_has ls 1 [(0, .ref (K0.1 + 7))] := hl
  have hx := cx.1
  have hb := cx.2.1
  refine lv_aload_n hx hb dX3_init_0 rfl (lv_at hl 0 rfl) ?_
  refine nc_oi cx hl.1 oi_X3 wo_i wo_c ⟨Nat.le_of_ble_eq_true rfl, Nat.le_of_ble_eq_true rfl⟩ dX3_init_1 ?_
  exact nc_vretK cx hw hr hlocks ⟨rfl, rfl⟩ ⟨Nat.le_of_ble_eq_true rfl, Nat.le_of_ble_eq_true rfl⟩ dX3_init_4
abbrev rm_cn_X3_init_8 : Room := { frames := 1, cells := 0, slots := 0, locals := 40 }
set_option maxRecDepth 100000 in
set_option maxHeartbeats 4000000 in
theorem cn_X3_init_8 (l : Launch) {G : nc_G} {K0 : nc_K} (hB : G.2.2.1 ≤ K0.1) (mi : nc_Mem)   : nc_M l yX3_init cX3_init 1 none rm_cn_X3_init_8 0 0 G (nc_kt nc_SN nc_RN K0 9 6) (nc_kt nc_SN nc_RN K0 9 6) [.ref (K0.1 + 8)] mi mi none := by
  refine nc_meet_n (by decide) (Nat.le_of_ble_eq_true rfl) ?_
  intro p e s m args below meth c ls H cx hin hr hlocks hw hl
  have cx : nc_C p s m args c cX3_init 1 RX3 G := cx
  have hin : meth.name = "<init>" := hin
  have hl : lv_has ls 1 [(0, .ref (K0.1 + 8))] := hl
  have hx := cx.1
  have hb := cx.2.1
  refine lv_aload_n hx hb dX3_init_0 rfl (lv_at hl 0 rfl) ?_
  refine nc_oi cx hl.1 oi_X3 wo_i wo_c ⟨Nat.le_of_ble_eq_true rfl, Nat.le_of_ble_eq_true rfl⟩ dX3_init_1 ?_
  exact nc_vretK cx hw hr hlocks ⟨rfl, rfl⟩ ⟨Nat.le_of_ble_eq_true rfl, Nat.le_of_ble_eq_true rfl⟩ dX3_init_4
abbrev rm_cn_X3_init_9 : Room := { frames := 1, cells := 0, slots := 0, locals := 40 }
set_option maxRecDepth 100000 in
set_option maxHeartbeats 4000000 in
theorem cn_X3_init_9 (l : Launch) {G : nc_G} {K0 : nc_K} (hB : G.2.2.1 ≤ K0.1) (mi : nc_Mem)   : nc_M l yX3_init cX3_init 1 none rm_cn_X3_init_9 0 0 G (nc_kt nc_SN nc_RN K0 10 7) (nc_kt nc_SN nc_RN K0 10 7) [.ref (K0.1 + 9)] mi mi none := by
  refine nc_meet_n (by decide) (Nat.le_of_ble_eq_true rfl) ?_
  intro p e s m args below meth c ls H cx hin hr hlocks hw hl
  have cx : nc_C p s m args c cX3_init 1 RX3 G := cx
  have hin : meth.name = "<init>" := hin
  have hl : lv_has ls 1 [(0, .ref (K0.1 + 9))] := hl
  have hx := cx.1
  have hb := cx.2.1
  refine lv_aload_n hx hb dX3_init_0 rfl (lv_at hl 0 rfl) ?_
  refine nc_oi cx hl.1 oi_X3 wo_i wo_c ⟨Nat.le_of_ble_eq_true rfl, Nat.le_of_ble_eq_true rfl⟩ dX3_init_1 ?_
  exact nc_vretK cx hw hr hlocks ⟨rfl, rfl⟩ ⟨Nat.le_of_ble_eq_true rfl, Nat.le_of_ble_eq_true rfl⟩ dX3_init_4
abbrev rm_cn_X3_init_10 : Room := { frames := 1, cells := 0, slots := 0, locals := 40 }
set_option maxRecDepth 100000 in
set_option maxHeartbeats 4000000 in
theorem cn_X3_init_10 (l : Launch) {G : nc_G} {K0 : nc_K} (hB : G.2.2.1 ≤ K0.1) (mi : nc_Mem)   : nc_M l yX3_init cX3_init 1 none rm_cn_X3_init_10 0 0 G (nc_kt nc_SN nc_RN K0 11 8) (nc_kt nc_SN nc_RN K0 11 8) [.ref (K0.1 + 10)] mi mi none := by
  refine nc_meet_n (by decide) (Nat.le_of_ble_eq_true rfl) ?_
  intro p e s m args below meth c ls H cx hin hr hlocks hw hl
  have cx : nc_C p s m args c cX3_init 1 RX3 G := cx
  have hin : meth.name = "<init>" := hin
  have hl : lv_has ls 1 [(0, .ref (K0.1 + 10))] := hl
  have hx := cx.1
  have hb := cx.2.1
  refine lv_aload_n hx hb dX3_init_0 rfl (lv_at hl 0 rfl) ?_
  refine nc_oi cx hl.1 oi_X3 wo_i wo_c ⟨Nat.le_of_ble_eq_true rfl, Nat.le_of_ble_eq_true rfl⟩ dX3_init_1 ?_
  exact nc_vretK cx hw hr hlocks ⟨rfl, rfl⟩ ⟨Nat.le_of_ble_eq_true rfl, Nat.le_of_ble_eq_true rfl⟩ dX3_init_4
abbrev rm_cn_X3_init_11 : Room := { frames := 1, cells := 0, slots := 0, locals := 40 }
set_option maxRecDepth 100000 in
set_option maxHeartbeats 4000000 in
theorem cn_X3_init_11 (l : Launch) {G : nc_G} {K0 : nc_K} (hB : G.2.2.1 ≤ K0.1) (mi : nc_Mem)   : nc_M l yX3_init cX3_init 1 none rm_cn_X3_init_11 0 0 G (nc_kt nc_SN nc_RN K0 12 9) (nc_kt nc_SN nc_RN K0 12 9) [.ref (K0.1 + 11)] mi mi none := by
  refine nc_meet_n (by decide) (Nat.le_of_ble_eq_true rfl) ?_
  intro p e s m args below meth c ls H cx hin hr hlocks hw hl
  have cx : nc_C p s m args c cX3_init 1 RX3 G := cx
  have hin : meth.name = "<init>" := hin
  have hl : lv_has ls 1 [(0, .ref (K0.1 + 11))] := hl
  have hx := cx.1
  have hb := cx.2.1
  refine lv_aload_n hx hb dX3_init_0 rfl (lv_at hl 0 rfl) ?_
  refine nc_oi cx hl.1 oi_X3 wo_i wo_c ⟨Nat.le_of_ble_eq_true rfl, Nat.le_of_ble_eq_true rfl⟩ dX3_init_1 ?_
  exact nc_vretK cx hw hr hlocks ⟨rfl, rfl⟩ ⟨Nat.le_of_ble_eq_true rfl, Nat.le_of_ble_eq_true rfl⟩ dX3_init_4
abbrev rm_cn_X4_init_12 : Room := { frames := 1, cells := 0, slots := 0, locals := 40 }
set_option maxRecDepth 100000 in
set_option maxHeartbeats 4000000 in
theorem cn_X4_init_12 (l : Launch) {G : nc_G} {K0 : nc_K} (hB : G.2.2.1 ≤ K0.1) (mi : nc_Mem)   : nc_M l yX4_init cX4_init 1 none rm_cn_X4_init_12 0 0 G (nc_kt nc_SN nc_RN K0 13 10) (nc_kt nc_SN nc_RN K0 13 10) [.ref (K0.1 + 12)] mi mi none := by
  refine nc_meet_n (by decide) (Nat.le_of_ble_eq_true rfl) ?_
  intro p e s m args below meth c ls H cx hin hr hlocks hw hl
  have cx : nc_C p s m args c cX4_init 1 RX4 G := cx
  have hin : meth.name = "<init>" := hin
  have hl : lv_has ls 1 [(0, .ref (K0.1 + 12))] := hl
  have hx := cx.1
  have hb := cx.2.1
  refine lv_aload_n hx hb dX4_init_0 rfl (lv_at hl 0 rfl) ?_
  refine nc_oi cx hl.1 oi_X4 wo_i wo_c ⟨Nat.le_of_ble_eq_true rfl, Nat.le_of_ble_eq_true rfl⟩ dX4_init_1 ?_
  exact nc_vretK cx hw hr hlocks ⟨rfl, rfl⟩ ⟨Nat.le_of_ble_eq_true rfl, Nat.le_of_ble_eq_true rfl⟩ dX4_init_4
abbrev rm_cn_X4_init_13 : Room := { frames := 1, cells := 0, slots := 0, locals := 40 }
set_option maxRecDepth 100000 in
set_option maxHeartbeats 4000000 in
theorem cn_X4_init_13 (l : Launch) {G : nc_G} {K0 : nc_K} (hB : G.2.2.1 ≤ K0.1) (mi : nc_Mem)   : nc_M l yX4_init cX4_init 1 none rm_cn_X4_init_13 0 0 G (nc_kt nc_SN nc_RN K0 14 11) (nc_kt nc_SN nc_RN K0 14 11) [.ref (K0.1 + 13)] mi mi none := by
  refine nc_meet_n (by decide) (Nat.le_of_ble_eq_true rfl) ?_
  intro p e s m args below meth c ls H cx hin hr hlocks hw hl
  have cx : nc_C p s m args c cX4_init 1 RX4 G := cx
  have hin : meth.name = "<init>" := hin
  have hl : lv_has ls 1 [(0, .ref (K0.1 + 13))] := hl
  have hx := cx.1
  have hb := cx.2.1
  refine lv_aload_n hx hb dX4_init_0 rfl (lv_at hl 0 rfl) ?_
  refine nc_oi cx hl.1 oi_X4 wo_i wo_c ⟨Nat.le_of_ble_eq_true rfl, Nat.le_of_ble_eq_true rfl⟩ dX4_init_1 ?_
  exact nc_vretK cx hw hr hlocks ⟨rfl, rfl⟩ ⟨Nat.le_of_ble_eq_true rfl, Nat.le_of_ble_eq_true rfl⟩ dX4_init_4
abbrev rm_cn_X4_init_14 : Room := { frames := 1, cells := 0, slots := 0, locals := 40 }
set_option maxRecDepth 100000 in
set_option maxHeartbeats 4000000 in
theorem cn_X4_init_14 (l : Launch) {G : nc_G} {K0 : nc_K} (hB : G.2.2.1 ≤ K0.1) (mi : nc_Mem)   : nc_M l yX4_init cX4_init 1 none rm_cn_X4_init_14 0 0 G (nc_kt nc_SN nc_RN K0 15 12) (nc_kt nc_SN nc_RN K0 15 12) [.ref (K0.1 + 14)] mi mi none := by
  refine nc_meet_n (by decide) (Nat.le_of_ble_eq_true rfl) ?_
  intro p e s m args below meth c ls H cx hin hr hlocks hw hl
  have cx : nc_C p s m args c cX4_init 1 RX4 G := cx
  have hin : meth.name = "<init>" := hin
  have hl : lv_has ls 1 [(0, .ref (K0.1 + 14))] := hl
  have hx := cx.1
  have hb := cx.2.1
  refine lv_aload_n hx hb dX4_init_0 rfl (lv_at hl 0 rfl) ?_
  refine nc_oi cx hl.1 oi_X4 wo_i wo_c ⟨Nat.le_of_ble_eq_true rfl, Nat.le_of_ble_eq_true rfl⟩ dX4_init_1 ?_
  exact nc_vretK cx hw hr hlocks ⟨rfl, rfl⟩ ⟨Nat.le_of_ble_eq_true rfl, Nat.le_of_ble_eq_true rfl⟩ dX4_init_4
abbrev rm_cn_X4_init_15 : Room := { frames := 1, cells := 0, slots := 0, locals := 40 }
set_option maxRecDepth 100000 in
set_option maxHeartbeats 4000000 in
theorem cn_X4_init_15 (l : Launch) {G : nc_G} {K0 : nc_K} (hB : G.2.2.1 ≤ K0.1) (mi : nc_Mem)   : nc_M l yX4_init cX4_init 1 none rm_cn_X4_init_15 0 0 G (nc_kt nc_SN nc_RN K0 16 13) (nc_kt nc_SN nc_RN K0 16 13) [.ref (K0.1 + 15)] mi mi none := by
  refine nc_meet_n (by decide) (Nat.le_of_ble_eq_true rfl) ?_
  intro p e s m args below meth c ls H cx hin hr hlocks hw hl
  have cx : nc_C p s m args c cX4_init 1 RX4 G := cx
  have hin : meth.name = "<init>" := hin
  have hl : lv_has ls 1 [(0, .ref (K0.1 + 15))] := hl
  have hx := cx.1
  have hb := cx.2.1
  refine lv_aload_n hx hb dX4_init_0 rfl (lv_at hl 0 rfl) ?_
  refine nc_oi cx hl.1 oi_X4 wo_i wo_c ⟨Nat.le_of_ble_eq_true rfl, Nat.le_of_ble_eq_true rfl⟩ dX4_init_1 ?_
  exact nc_vretK cx hw hr hlocks ⟨rfl, rfl⟩ ⟨Nat.le_of_ble_eq_true rfl, Nat.le_of_ble_eq_true rfl⟩ dX4_init_4
abbrev rm_cn_X4_init_16 : Room := { frames := 1, cells := 0, slots := 0, locals := 40 }
set_option maxRecDepth 100000 in
set_option maxHeartbeats 4000000 in
theorem cn_X4_init_16 (l : Launch) {G : nc_G} {K0 : nc_K} (hB : G.2.2.1 ≤ K0.1) (mi : nc_Mem)   : nc_M l yX4_init cX4_init 1 none rm_cn_X4_init_16 0 0 G (nc_kt nc_SN nc_RN K0 17 14) (nc_kt nc_SN nc_RN K0 17 14) [.ref (K0.1 + 16)] mi mi none := by
  refine nc_meet_n (by decide) (Nat.le_of_ble_eq_true rfl) ?_
  intro p e s m args below meth c ls H cx hin hr hlocks hw hl
  have cx : nc_C p s m args c cX4_init 1 RX4 G := cx
  have hin : meth.name = "<init>" := hin
  have hl : lv_has ls 1 [(0, .ref (K0.1 + 16))] := hl
  have hx := cx.1
  have hb := cx.2.1
  refine lv_aload_n hx hb dX4_init_0 rfl (lv_at hl 0 rfl) ?_
  refine nc_oi cx hl.1 oi_X4 wo_i wo_c ⟨Nat.le_of_ble_eq_true rfl, Nat.le_of_ble_eq_true rfl⟩ dX4_init_1 ?_
  exact nc_vretK cx hw hr hlocks ⟨rfl, rfl⟩ ⟨Nat.le_of_ble_eq_true rfl, Nat.le_of_ble_eq_true rfl⟩ dX4_init_4
abbrev rm_cn_X4_init_17 : Room := { frames := 1, cells := 0, slots := 0, locals := 40 }
set_option maxRecDepth 100000 in
set_option maxHeartbeats 4000000 in
theorem cn_X4_init_17 (l : Launch) {G : nc_G} {K0 : nc_K} (hB : G.2.2.1 ≤ K0.1) (mi : nc_Mem)   : nc_M l yX4_init cX4_init 1 none rm_cn_X4_init_17 0 0 G (nc_kt nc_SN nc_RN K0 18 15) (nc_kt nc_SN nc_RN K0 18 15) [.ref (K0.1 + 17)] mi mi none := by
  refine nc_meet_n (by decide) (Nat.le_of_ble_eq_true rfl) ?_
  intro p e s m args below meth c ls H cx hin hr hlocks hw hl
  have cx : nc_C p s m args c cX4_init 1 RX4 G := cx
  have hin : meth.name = "<init>" := hin
  have hl : lv_has ls 1 [(0, .ref (K0.1 + 17))] := hl
  have hx := cx.1
  have hb := cx.2.1
  refine lv_aload_n hx hb dX4_init_0 rfl (lv_at hl 0 rfl) ?_
  refine nc_oi cx hl.1 oi_X4 wo_i wo_c ⟨Nat.le_of_ble_eq_true rfl, Nat.le_of_ble_eq_true rfl⟩ dX4_init_1 ?_
  exact nc_vretK cx hw hr hlocks ⟨rfl, rfl⟩ ⟨Nat.le_of_ble_eq_true rfl, Nat.le_of_ble_eq_true rfl⟩ dX4_init_4
abbrev rm_cn_X5_init_1 : Room := { frames := 6, cells := 16, slots := 212, locals := 200 }
set_option maxRecDepth 100000 in
set_option maxHeartbeats 4000000 in
theorem cn_X5_init_1 (l : Launch) {G : nc_G} {K0 : nc_K} (hB : G.2.2.1 ≤ K0.1) (mi : nc_Mem) (mi' : nc_Mem) (hf : f_X5_measure (nc_up mi (K0.1 + 1) 4 4) (K0.1 + 1) = some mi') : nc_M l yX5_init cX5_init 2 none rm_cn_X5_init_1 16 212 G (nc_kt nc_SN nc_RN K0 2 0) (nc_kt nc_SN nc_RN K0 18 16) [.ref (K0.1 + 1)] mi mi' none := by
  refine nc_meet_n (by decide) (Nat.le_of_ble_eq_true rfl) ?_
  intro p e s m args below meth c ls H cx hin hr hlocks hw hl
  have cx : nc_C p s m args c cX5_init 2 RX5 G := cx
  have hin : meth.name = "<init>" := hin
  have hl : lv_has ls 2 [(0, .ref (K0.1 + 1))] := hl
  have hx := cx.1
  have hb := cx.2.1
  refine lv_aload_n hx hb dX5_init_0 rfl (lv_at hl 0 rfl) ?_
  refine nc_oi cx hl.1 oi_X5 wo_i wo_c ⟨Nat.le_of_ble_eq_true rfl, Nat.le_of_ble_eq_true rfl⟩ dX5_init_1 ?_
  refine lv_aload_n hx hb dX5_init_4 rfl (lv_at hl 0 rfl) ?_
  refine lv_bipush (v := 6) hx hb dX5_init_5 (by decide) ?_
  refine nt_ref (N := 6) (ki := 10) (t0 := 1) cx hw (by decide +kernel) (by decide) cl_X5_9 (by decide) rfl (by decide) (by decide) (Nat.le_of_ble_eq_true rfl) ⟨Nat.le_of_ble_eq_true rfl, Nat.le_of_ble_eq_true rfl⟩ dX5_init_7 (fun H hw => ?_)
  refine nt_putF (ci := 5) (k := 0) (ty := .array (.object "NobodyCarries$Person")) cx hB hw (by decide +kernel) (by decide) (by decide +kernel) rfl (by decide) rfl rfl rfl hin (by decide +kernel) rfl rfl fl_X5_11 dX5_init_10 (fun H locs hw => ?_)
  refine lv_aload_n hx hb dX5_init_13 rfl (lv_at hl 0 rfl) ?_
  refine lv_bipush (v := 6) hx hb dX5_init_14 (by decide) ?_
  refine nt_ref (N := 6) (ki := 11) (t0 := 2) cx hw (by decide +kernel) (by decide) cl_X5_17 (by decide) rfl (by decide) (by decide) (Nat.le_of_ble_eq_true rfl) ⟨Nat.le_of_ble_eq_true rfl, Nat.le_of_ble_eq_true rfl⟩ dX5_init_16 (fun H hw => ?_)
  refine nt_putF (ci := 5) (k := 1) (ty := .array (.object "NobodyCarries$Thing")) cx hB hw (by decide +kernel) (by decide) (by decide +kernel) rfl (by decide) rfl rfl rfl hin (by decide +kernel) rfl rfl fl_X5_19 dX5_init_19 (fun H locs hw => ?_)
  refine lv_aload_n hx hb dX5_init_22 rfl (lv_at hl 0 rfl) ?_
  refine lv_bipush (v := 49) hx hb dX5_init_23 (by decide) ?_
  refine nt_int (N := 49) cx hw (by decide +kernel) wa_int (by decide) (by decide) (Nat.le_of_ble_eq_true rfl) ⟨Nat.le_of_ble_eq_true rfl, Nat.le_of_ble_eq_true rfl⟩ dX5_init_25 (fun H hw => ?_)
  refine nt_putF (ci := 5) (k := 2) (ty := .array .int) cx hB hw (by decide +kernel) (by decide) (by decide +kernel) rfl (by decide) rfl rfl rfl hin (by decide +kernel) rfl rfl fl_X5_23 dX5_init_27 (fun H locs hw => ?_)
  refine lv_aload_n hx hb dX5_init_30 rfl (lv_at hl 0 rfl) ?_
  refine lv_bipush (v := 49) hx hb dX5_init_31 (by decide) ?_
  refine nt_int (N := 49) cx hw (by decide +kernel) wa_int (by decide) (by decide) (Nat.le_of_ble_eq_true rfl) ⟨Nat.le_of_ble_eq_true rfl, Nat.le_of_ble_eq_true rfl⟩ dX5_init_33 (fun H hw => ?_)
  refine nt_putF (ci := 5) (k := 3) (ty := .array .int) cx hB hw (by decide +kernel) (by decide) (by decide +kernel) rfl (by decide) rfl rfl rfl hin (by decide +kernel) rfl rfl fl_X5_27 dX5_init_35 (fun H locs hw => ?_)
  refine lv_aload_n hx hb dX5_init_38 rfl (lv_at hl 0 rfl) ?_
  refine lv_iconst (v := 4) hx hb dX5_init_39 (by decide) ?_
  refine pi_X5_30 cx hw (nt_is hB (o := 1) (by decide) (by decide +kernel)) dX5_init_40 (fun mi1 H locs emi1 hw => ?_)
  subst emi1
  refine lv_iconst (v := 0) hx hb dX5_init_43 (by decide) ?_
  refine lv_istore_n (lv' := [(1, .int 0), (0, .ref (K0.1 + 1))]) hx hb dX5_init_44 rfl hl (by decide) rfl (fun ls hl => ?_)
  refine lv_iload_n hx hb dX5_init_45 rfl (lv_at hl 0 rfl) ?_
  refine lv_bipush (v := 6) hx hb dX5_init_46 (by decide) ?_
  refine lv_icmp_ge (tgt := 70) hx hb dX5_init_48 (by decide) (fun c => absurd c (by decide)) (fun c => ?_)
  refine lv_aload_n hx hb dX5_init_51 rfl (lv_at hl 1 rfl) ?_
  refine gr_X5_11 cx hw (nt_is hB (o := 1) (by decide) (by decide +kernel)) (nt_mr (o := 1) (k := 0) (v := 2) (by decide +kernel)) (nt_is hB (o := 2) (kn := (10, 6)) (by decide) (by decide +kernel)) dX5_init_52 ?_
  refine lv_iload_n hx hb dX5_init_55 rfl (lv_at hl 0 rfl) ?_
  refine nt_new (ci := 3) cx hw (by decide +kernel) rfl cl_X5_9 wn_X3 wi_X3 ⟨Nat.le_of_ble_eq_true rfl, Nat.le_of_ble_eq_true rfl⟩ dX5_init_56 (fun H hw => ?_)
  refine lv_dup hx hb dX5_init_59 rfl ?_
  refine nc_runN cx hw ln_X5_34 (cn_X3_init_6 l hB (nc_up mi (K0.1 + 1) 4 4)) rfl hl.1 rfl (Nat.le_of_ble_eq_true rfl) ⟨rfl, rfl, Nat.le_of_ble_eq_true rfl, Nat.le_of_ble_eq_true rfl⟩ ⟨Nat.le_of_ble_eq_true rfl, Nat.le_of_ble_eq_true rfl⟩ dX5_init_60 (fun H locs hw => ?_)
  refine nt_aast (n := 6) (v := 6) (o := 2) (ki := 10) (t0 := 1) (ci := 3) (q := 0) cx hB hw (by decide +kernel) (by decide) (by decide) (by decide +kernel) (by decide +kernel) (by decide) rfl rfl (nc_lit (j := 0) rfl (by decide) (by decide)) rfl dX5_init_63 (fun H locs hw => ?_)
  refine lv_iinc (v := 1) (lv' := [(1, .int 1), (0, .ref (K0.1 + 1))]) hx hb dX5_init_64 hl (k := 0) rfl (by decide) (by decide) rfl (fun ls hl => ?_)
  refine lv_goto (tgt := 45) hx hb dX5_init_67 (by decide) ?_
  refine lv_iload_n hx hb dX5_init_45 rfl (lv_at hl 0 rfl) ?_
  refine lv_bipush (v := 6) hx hb dX5_init_46 (by decide) ?_
  refine lv_icmp_ge (tgt := 70) hx hb dX5_init_48 (by decide) (fun c => absurd c (by decide)) (fun c => ?_)
  refine lv_aload_n hx hb dX5_init_51 rfl (lv_at hl 1 rfl) ?_
  refine gr_X5_11 cx hw (nt_is hB (o := 1) (by decide) (by decide +kernel)) (nt_mr (o := 1) (k := 0) (v := 2) (by decide +kernel)) (nt_is hB (o := 2) (kn := (10, 6)) (by decide) (by decide +kernel)) dX5_init_52 ?_
  refine lv_iload_n hx hb dX5_init_55 rfl (lv_at hl 0 rfl) ?_
  refine nt_new (ci := 3) cx hw (by decide +kernel) rfl cl_X5_9 wn_X3 wi_X3 ⟨Nat.le_of_ble_eq_true rfl, Nat.le_of_ble_eq_true rfl⟩ dX5_init_56 (fun H hw => ?_)
  refine lv_dup hx hb dX5_init_59 rfl ?_
  refine nc_runN cx hw ln_X5_34 (cn_X3_init_7 l hB (nc_up mi (K0.1 + 1) 4 4)) rfl hl.1 rfl (Nat.le_of_ble_eq_true rfl) ⟨rfl, rfl, Nat.le_of_ble_eq_true rfl, Nat.le_of_ble_eq_true rfl⟩ ⟨Nat.le_of_ble_eq_true rfl, Nat.le_of_ble_eq_true rfl⟩ dX5_init_60 (fun H locs hw => ?_)
  refine nt_aast (n := 6) (v := 7) (o := 2) (ki := 10) (t0 := 1) (ci := 3) (q := 1) cx hB hw (by decide +kernel) (by decide) (by decide) (by decide +kernel) (by decide +kernel) (by decide) rfl rfl (nc_lit (j := 1) rfl (by decide) (by decide)) rfl dX5_init_63 (fun H locs hw => ?_)
  refine lv_iinc (v := 2) (lv' := [(1, .int 2), (0, .ref (K0.1 + 1))]) hx hb dX5_init_64 hl (k := 0) rfl (by decide) (by decide) rfl (fun ls hl => ?_)
  refine lv_goto (tgt := 45) hx hb dX5_init_67 (by decide) ?_
  refine lv_iload_n hx hb dX5_init_45 rfl (lv_at hl 0 rfl) ?_
  refine lv_bipush (v := 6) hx hb dX5_init_46 (by decide) ?_
  refine lv_icmp_ge (tgt := 70) hx hb dX5_init_48 (by decide) (fun c => absurd c (by decide)) (fun c => ?_)
  refine lv_aload_n hx hb dX5_init_51 rfl (lv_at hl 1 rfl) ?_
  refine gr_X5_11 cx hw (nt_is hB (o := 1) (by decide) (by decide +kernel)) (nt_mr (o := 1) (k := 0) (v := 2) (by decide +kernel)) (nt_is hB (o := 2) (kn := (10, 6)) (by decide) (by decide +kernel)) dX5_init_52 ?_
  refine lv_iload_n hx hb dX5_init_55 rfl (lv_at hl 0 rfl) ?_
  refine nt_new (ci := 3) cx hw (by decide +kernel) rfl cl_X5_9 wn_X3 wi_X3 ⟨Nat.le_of_ble_eq_true rfl, Nat.le_of_ble_eq_true rfl⟩ dX5_init_56 (fun H hw => ?_)
  refine lv_dup hx hb dX5_init_59 rfl ?_
  refine nc_runN cx hw ln_X5_34 (cn_X3_init_8 l hB (nc_up mi (K0.1 + 1) 4 4)) rfl hl.1 rfl (Nat.le_of_ble_eq_true rfl) ⟨rfl, rfl, Nat.le_of_ble_eq_true rfl, Nat.le_of_ble_eq_true rfl⟩ ⟨Nat.le_of_ble_eq_true rfl, Nat.le_of_ble_eq_true rfl⟩ dX5_init_60 (fun H locs hw => ?_)
  refine nt_aast (n := 6) (v := 8) (o := 2) (ki := 10) (t0 := 1) (ci := 3) (q := 2) cx hB hw (by decide +kernel) (by decide) (by decide) (by decide +kernel) (by decide +kernel) (by decide) rfl rfl (nc_lit (j := 2) rfl (by decide) (by decide)) rfl dX5_init_63 (fun H locs hw => ?_)
  refine lv_iinc (v := 3) (lv' := [(1, .int 3), (0, .ref (K0.1 + 1))]) hx hb dX5_init_64 hl (k := 0) rfl (by decide) (by decide) rfl (fun ls hl => ?_)
  refine lv_goto (tgt := 45) hx hb dX5_init_67 (by decide) ?_
  refine lv_iload_n hx hb dX5_init_45 rfl (lv_at hl 0 rfl) ?_
  refine lv_bipush (v := 6) hx hb dX5_init_46 (by decide) ?_
  refine lv_icmp_ge (tgt := 70) hx hb dX5_init_48 (by decide) (fun c => absurd c (by decide)) (fun c => ?_)
  refine lv_aload_n hx hb dX5_init_51 rfl (lv_at hl 1 rfl) ?_
  refine gr_X5_11 cx hw (nt_is hB (o := 1) (by decide) (by decide +kernel)) (nt_mr (o := 1) (k := 0) (v := 2) (by decide +kernel)) (nt_is hB (o := 2) (kn := (10, 6)) (by decide) (by decide +kernel)) dX5_init_52 ?_
  refine lv_iload_n hx hb dX5_init_55 rfl (lv_at hl 0 rfl) ?_
  refine nt_new (ci := 3) cx hw (by decide +kernel) rfl cl_X5_9 wn_X3 wi_X3 ⟨Nat.le_of_ble_eq_true rfl, Nat.le_of_ble_eq_true rfl⟩ dX5_init_56 (fun H hw => ?_)
  refine lv_dup hx hb dX5_init_59 rfl ?_
  refine nc_runN cx hw ln_X5_34 (cn_X3_init_9 l hB (nc_up mi (K0.1 + 1) 4 4)) rfl hl.1 rfl (Nat.le_of_ble_eq_true rfl) ⟨rfl, rfl, Nat.le_of_ble_eq_true rfl, Nat.le_of_ble_eq_true rfl⟩ ⟨Nat.le_of_ble_eq_true rfl, Nat.le_of_ble_eq_true rfl⟩ dX5_init_60 (fun H locs hw => ?_)
  refine nt_aast (n := 6) (v := 9) (o := 2) (ki := 10) (t0 := 1) (ci := 3) (q := 3) cx hB hw (by decide +kernel) (by decide) (by decide) (by decide +kernel) (by decide +kernel) (by decide) rfl rfl (nc_lit (j := 3) rfl (by decide) (by decide)) rfl dX5_init_63 (fun H locs hw => ?_)
  refine lv_iinc (v := 4) (lv' := [(1, .int 4), (0, .ref (K0.1 + 1))]) hx hb dX5_init_64 hl (k := 0) rfl (by decide) (by decide) rfl (fun ls hl => ?_)
  refine lv_goto (tgt := 45) hx hb dX5_init_67 (by decide) ?_
  refine lv_iload_n hx hb dX5_init_45 rfl (lv_at hl 0 rfl) ?_
  refine lv_bipush (v := 6) hx hb dX5_init_46 (by decide) ?_
  refine lv_icmp_ge (tgt := 70) hx hb dX5_init_48 (by decide) (fun c => absurd c (by decide)) (fun c => ?_)
  refine lv_aload_n hx hb dX5_init_51 rfl (lv_at hl 1 rfl) ?_
  refine gr_X5_11 cx hw (nt_is hB (o := 1) (by decide) (by decide +kernel)) (nt_mr (o := 1) (k := 0) (v := 2) (by decide +kernel)) (nt_is hB (o := 2) (kn := (10, 6)) (by decide) (by decide +kernel)) dX5_init_52 ?_
  refine lv_iload_n hx hb dX5_init_55 rfl (lv_at hl 0 rfl) ?_
  refine nt_new (ci := 3) cx hw (by decide +kernel) rfl cl_X5_9 wn_X3 wi_X3 ⟨Nat.le_of_ble_eq_true rfl, Nat.le_of_ble_eq_true rfl⟩ dX5_init_56 (fun H hw => ?_)
  refine lv_dup hx hb dX5_init_59 rfl ?_
  refine nc_runN cx hw ln_X5_34 (cn_X3_init_10 l hB (nc_up mi (K0.1 + 1) 4 4)) rfl hl.1 rfl (Nat.le_of_ble_eq_true rfl) ⟨rfl, rfl, Nat.le_of_ble_eq_true rfl, Nat.le_of_ble_eq_true rfl⟩ ⟨Nat.le_of_ble_eq_true rfl, Nat.le_of_ble_eq_true rfl⟩ dX5_init_60 (fun H locs hw => ?_)
  refine nt_aast (n := 6) (v := 10) (o := 2) (ki := 10) (t0 := 1) (ci := 3) (q := 4) cx hB hw (by decide +kernel) (by decide) (by decide) (by decide +kernel) (by decide +kernel) (by decide) rfl rfl (nc_lit (j := 4) rfl (by decide) (by decide)) rfl dX5_init_63 (fun H locs hw => ?_)
  refine lv_iinc (v := 5) (lv' := [(1, .int 5), (0, .ref (K0.1 + 1))]) hx hb dX5_init_64 hl (k := 0) rfl (by decide) (by decide) rfl (fun ls hl => ?_)
  refine lv_goto (tgt := 45) hx hb dX5_init_67 (by decide) ?_
  refine lv_iload_n hx hb dX5_init_45 rfl (lv_at hl 0 rfl) ?_
  refine lv_bipush (v := 6) hx hb dX5_init_46 (by decide) ?_
  refine lv_icmp_ge (tgt := 70) hx hb dX5_init_48 (by decide) (fun c => absurd c (by decide)) (fun c => ?_)
  refine lv_aload_n hx hb dX5_init_51 rfl (lv_at hl 1 rfl) ?_
  refine gr_X5_11 cx hw (nt_is hB (o := 1) (by decide) (by decide +kernel)) (nt_mr (o := 1) (k := 0) (v := 2) (by decide +kernel)) (nt_is hB (o := 2) (kn := (10, 6)) (by decide) (by decide +kernel)) dX5_init_52 ?_
  refine lv_iload_n hx hb dX5_init_55 rfl (lv_at hl 0 rfl) ?_
  refine nt_new (ci := 3) cx hw (by decide +kernel) rfl cl_X5_9 wn_X3 wi_X3 ⟨Nat.le_of_ble_eq_true rfl, Nat.le_of_ble_eq_true rfl⟩ dX5_init_56 (fun H hw => ?_)
  refine lv_dup hx hb dX5_init_59 rfl ?_
  refine nc_runN cx hw ln_X5_34 (cn_X3_init_11 l hB (nc_up mi (K0.1 + 1) 4 4)) rfl hl.1 rfl (Nat.le_of_ble_eq_true rfl) ⟨rfl, rfl, Nat.le_of_ble_eq_true rfl, Nat.le_of_ble_eq_true rfl⟩ ⟨Nat.le_of_ble_eq_true rfl, Nat.le_of_ble_eq_true rfl⟩ dX5_init_60 (fun H locs hw => ?_)
  refine nt_aast (n := 6) (v := 11) (o := 2) (ki := 10) (t0 := 1) (ci := 3) (q := 5) cx hB hw (by decide +kernel) (by decide) (by decide) (by decide +kernel) (by decide +kernel) (by decide) rfl rfl (nc_lit (j := 5) rfl (by decide) (by decide)) rfl dX5_init_63 (fun H locs hw => ?_)
  refine lv_iinc (v := 6) (lv' := [(1, .int 6), (0, .ref (K0.1 + 1))]) hx hb dX5_init_64 hl (k := 0) rfl (by decide) (by decide) rfl (fun ls hl => ?_)
  refine lv_goto (tgt := 45) hx hb dX5_init_67 (by decide) ?_
  refine lv_iload_n hx hb dX5_init_45 rfl (lv_at hl 0 rfl) ?_
  refine lv_bipush (v := 6) hx hb dX5_init_46 (by decide) ?_
  refine lv_icmp_ge (tgt := 70) hx hb dX5_init_48 (by decide) (fun c => ?_) (fun c => absurd (by decide) c)
  refine lv_iconst (v := 0) hx hb dX5_init_70 (by decide) ?_
  refine lv_istore_n (lv' := [(1, .int 0), (0, .ref (K0.1 + 1))]) hx hb dX5_init_71 rfl hl (by decide) rfl (fun ls hl => ?_)
  refine lv_iload_n hx hb dX5_init_72 rfl (lv_at hl 0 rfl) ?_
  refine lv_bipush (v := 6) hx hb dX5_init_73 (by decide) ?_
  refine lv_icmp_ge (tgt := 97) hx hb dX5_init_75 (by decide) (fun c => absurd c (by decide)) (fun c => ?_)
  refine lv_aload_n hx hb dX5_init_78 rfl (lv_at hl 1 rfl) ?_
  refine gr_X5_19 cx hw (nt_is hB (o := 1) (by decide) (by decide +kernel)) (nt_mr (o := 1) (k := 1) (v := 3) (by decide +kernel)) (nt_is hB (o := 3) (kn := (11, 6)) (by decide) (by decide +kernel)) dX5_init_79 ?_
  refine lv_iload_n hx hb dX5_init_82 rfl (lv_at hl 0 rfl) ?_
  refine nt_new (ci := 4) cx hw (by decide +kernel) rfl cl_X5_17 wn_X4 wi_X4 ⟨Nat.le_of_ble_eq_true rfl, Nat.le_of_ble_eq_true rfl⟩ dX5_init_83 (fun H hw => ?_)
  refine lv_dup hx hb dX5_init_86 rfl ?_
  refine nc_runN cx hw ln_X5_35 (cn_X4_init_12 l hB (nc_up mi (K0.1 + 1) 4 4)) rfl hl.1 rfl (Nat.le_of_ble_eq_true rfl) ⟨rfl, rfl, Nat.le_of_ble_eq_true rfl, Nat.le_of_ble_eq_true rfl⟩ ⟨Nat.le_of_ble_eq_true rfl, Nat.le_of_ble_eq_true rfl⟩ dX5_init_87 (fun H locs hw => ?_)
  refine nt_aast (n := 6) (v := 12) (o := 3) (ki := 11) (t0 := 2) (ci := 4) (q := 0) cx hB hw (by decide +kernel) (by decide) (by decide) (by decide +kernel) (by decide +kernel) (by decide) rfl rfl (nc_lit (j := 0) rfl (by decide) (by decide)) rfl dX5_init_90 (fun H locs hw => ?_)
  refine lv_iinc (v := 1) (lv' := [(1, .int 1), (0, .ref (K0.1 + 1))]) hx hb dX5_init_91 hl (k := 0) rfl (by decide) (by decide) rfl (fun ls hl => ?_)
  refine lv_goto (tgt := 72) hx hb dX5_init_94 (by decide) ?_
  refine lv_iload_n hx hb dX5_init_72 rfl (lv_at hl 0 rfl) ?_
  refine lv_bipush (v := 6) hx hb dX5_init_73 (by decide) ?_
  refine lv_icmp_ge (tgt := 97) hx hb dX5_init_75 (by decide) (fun c => absurd c (by decide)) (fun c => ?_)
  refine lv_aload_n hx hb dX5_init_78 rfl (lv_at hl 1 rfl) ?_
  refine gr_X5_19 cx hw (nt_is hB (o := 1) (by decide) (by decide +kernel)) (nt_mr (o := 1) (k := 1) (v := 3) (by decide +kernel)) (nt_is hB (o := 3) (kn := (11, 6)) (by decide) (by decide +kernel)) dX5_init_79 ?_
  refine lv_iload_n hx hb dX5_init_82 rfl (lv_at hl 0 rfl) ?_
  refine nt_new (ci := 4) cx hw (by decide +kernel) rfl cl_X5_17 wn_X4 wi_X4 ⟨Nat.le_of_ble_eq_true rfl, Nat.le_of_ble_eq_true rfl⟩ dX5_init_83 (fun H hw => ?_)
  refine lv_dup hx hb dX5_init_86 rfl ?_
  refine nc_runN cx hw ln_X5_35 (cn_X4_init_13 l hB (nc_up mi (K0.1 + 1) 4 4)) rfl hl.1 rfl (Nat.le_of_ble_eq_true rfl) ⟨rfl, rfl, Nat.le_of_ble_eq_true rfl, Nat.le_of_ble_eq_true rfl⟩ ⟨Nat.le_of_ble_eq_true rfl, Nat.le_of_ble_eq_true rfl⟩ dX5_init_87 (fun H locs hw => ?_)
  refine nt_aast (n := 6) (v := 13) (o := 3) (ki := 11) (t0 := 2) (ci := 4) (q := 1) cx hB hw (by decide +kernel) (by decide) (by decide) (by decide +kernel) (by decide +kernel) (by decide) rfl rfl (nc_lit (j := 1) rfl (by decide) (by decide)) rfl dX5_init_90 (fun H locs hw => ?_)
  refine lv_iinc (v := 2) (lv' := [(1, .int 2), (0, .ref (K0.1 + 1))]) hx hb dX5_init_91 hl (k := 0) rfl (by decide) (by decide) rfl (fun ls hl => ?_)
  refine lv_goto (tgt := 72) hx hb dX5_init_94 (by decide) ?_
  refine lv_iload_n hx hb dX5_init_72 rfl (lv_at hl 0 rfl) ?_
  refine lv_bipush (v := 6) hx hb dX5_init_73 (by decide) ?_
  refine lv_icmp_ge (tgt := 97) hx hb dX5_init_75 (by decide) (fun c => absurd c (by decide)) (fun c => ?_)
  refine lv_aload_n hx hb dX5_init_78 rfl (lv_at hl 1 rfl) ?_
  refine gr_X5_19 cx hw (nt_is hB (o := 1) (by decide) (by decide +kernel)) (nt_mr (o := 1) (k := 1) (v := 3) (by decide +kernel)) (nt_is hB (o := 3) (kn := (11, 6)) (by decide) (by decide +kernel)) dX5_init_79 ?_
  refine lv_iload_n hx hb dX5_init_82 rfl (lv_at hl 0 rfl) ?_
  refine nt_new (ci := 4) cx hw (by decide +kernel) rfl cl_X5_17 wn_X4 wi_X4 ⟨Nat.le_of_ble_eq_true rfl, Nat.le_of_ble_eq_true rfl⟩ dX5_init_83 (fun H hw => ?_)
  refine lv_dup hx hb dX5_init_86 rfl ?_
  refine nc_runN cx hw ln_X5_35 (cn_X4_init_14 l hB (nc_up mi (K0.1 + 1) 4 4)) rfl hl.1 rfl (Nat.le_of_ble_eq_true rfl) ⟨rfl, rfl, Nat.le_of_ble_eq_true rfl, Nat.le_of_ble_eq_true rfl⟩ ⟨Nat.le_of_ble_eq_true rfl, Nat.le_of_ble_eq_true rfl⟩ dX5_init_87 (fun H locs hw => ?_)
  refine nt_aast (n := 6) (v := 14) (o := 3) (ki := 11) (t0 := 2) (ci := 4) (q := 2) cx hB hw (by decide +kernel) (by decide) (by decide) (by decide +kernel) (by decide +kernel) (by decide) rfl rfl (nc_lit (j := 2) rfl (by decide) (by decide)) rfl dX5_init_90 (fun H locs hw => ?_)
  refine lv_iinc (v := 3) (lv' := [(1, .int 3), (0, .ref (K0.1 + 1))]) hx hb dX5_init_91 hl (k := 0) rfl (by decide) (by decide) rfl (fun ls hl => ?_)
  refine lv_goto (tgt := 72) hx hb dX5_init_94 (by decide) ?_
  refine lv_iload_n hx hb dX5_init_72 rfl (lv_at hl 0 rfl) ?_
  refine lv_bipush (v := 6) hx hb dX5_init_73 (by decide) ?_
  refine lv_icmp_ge (tgt := 97) hx hb dX5_init_75 (by decide) (fun c => absurd c (by decide)) (fun c => ?_)
  refine lv_aload_n hx hb dX5_init_78 rfl (lv_at hl 1 rfl) ?_
  refine gr_X5_19 cx hw (nt_is hB (o := 1) (by decide) (by decide +kernel)) (nt_mr (o := 1) (k := 1) (v := 3) (by decide +kernel)) (nt_is hB (o := 3) (kn := (11, 6)) (by decide) (by decide +kernel)) dX5_init_79 ?_
  refine lv_iload_n hx hb dX5_init_82 rfl (lv_at hl 0 rfl) ?_
  refine nt_new (ci := 4) cx hw (by decide +kernel) rfl cl_X5_17 wn_X4 wi_X4 ⟨Nat.le_of_ble_eq_true rfl, Nat.le_of_ble_eq_true rfl⟩ dX5_init_83 (fun H hw => ?_)
  refine lv_dup hx hb dX5_init_86 rfl ?_
  refine nc_runN cx hw ln_X5_35 (cn_X4_init_15 l hB (nc_up mi (K0.1 + 1) 4 4)) rfl hl.1 rfl (Nat.le_of_ble_eq_true rfl) ⟨rfl, rfl, Nat.le_of_ble_eq_true rfl, Nat.le_of_ble_eq_true rfl⟩ ⟨Nat.le_of_ble_eq_true rfl, Nat.le_of_ble_eq_true rfl⟩ dX5_init_87 (fun H locs hw => ?_)
  refine nt_aast (n := 6) (v := 15) (o := 3) (ki := 11) (t0 := 2) (ci := 4) (q := 3) cx hB hw (by decide +kernel) (by decide) (by decide) (by decide +kernel) (by decide +kernel) (by decide) rfl rfl (nc_lit (j := 3) rfl (by decide) (by decide)) rfl dX5_init_90 (fun H locs hw => ?_)
  refine lv_iinc (v := 4) (lv' := [(1, .int 4), (0, .ref (K0.1 + 1))]) hx hb dX5_init_91 hl (k := 0) rfl (by decide) (by decide) rfl (fun ls hl => ?_)
  refine lv_goto (tgt := 72) hx hb dX5_init_94 (by decide) ?_
  refine lv_iload_n hx hb dX5_init_72 rfl (lv_at hl 0 rfl) ?_
  refine lv_bipush (v := 6) hx hb dX5_init_73 (by decide) ?_
  refine lv_icmp_ge (tgt := 97) hx hb dX5_init_75 (by decide) (fun c => absurd c (by decide)) (fun c => ?_)
  refine lv_aload_n hx hb dX5_init_78 rfl (lv_at hl 1 rfl) ?_
  refine gr_X5_19 cx hw (nt_is hB (o := 1) (by decide) (by decide +kernel)) (nt_mr (o := 1) (k := 1) (v := 3) (by decide +kernel)) (nt_is hB (o := 3) (kn := (11, 6)) (by decide) (by decide +kernel)) dX5_init_79 ?_
  refine lv_iload_n hx hb dX5_init_82 rfl (lv_at hl 0 rfl) ?_
  refine nt_new (ci := 4) cx hw (by decide +kernel) rfl cl_X5_17 wn_X4 wi_X4 ⟨Nat.le_of_ble_eq_true rfl, Nat.le_of_ble_eq_true rfl⟩ dX5_init_83 (fun H hw => ?_)
  refine lv_dup hx hb dX5_init_86 rfl ?_
  refine nc_runN cx hw ln_X5_35 (cn_X4_init_16 l hB (nc_up mi (K0.1 + 1) 4 4)) rfl hl.1 rfl (Nat.le_of_ble_eq_true rfl) ⟨rfl, rfl, Nat.le_of_ble_eq_true rfl, Nat.le_of_ble_eq_true rfl⟩ ⟨Nat.le_of_ble_eq_true rfl, Nat.le_of_ble_eq_true rfl⟩ dX5_init_87 (fun H locs hw => ?_)
  refine nt_aast (n := 6) (v := 16) (o := 3) (ki := 11) (t0 := 2) (ci := 4) (q := 4) cx hB hw (by decide +kernel) (by decide) (by decide) (by decide +kernel) (by decide +kernel) (by decide) rfl rfl (nc_lit (j := 4) rfl (by decide) (by decide)) rfl dX5_init_90 (fun H locs hw => ?_)
  refine lv_iinc (v := 5) (lv' := [(1, .int 5), (0, .ref (K0.1 + 1))]) hx hb dX5_init_91 hl (k := 0) rfl (by decide) (by decide) rfl (fun ls hl => ?_)
  refine lv_goto (tgt := 72) hx hb dX5_init_94 (by decide) ?_
  refine lv_iload_n hx hb dX5_init_72 rfl (lv_at hl 0 rfl) ?_
  refine lv_bipush (v := 6) hx hb dX5_init_73 (by decide) ?_
  refine lv_icmp_ge (tgt := 97) hx hb dX5_init_75 (by decide) (fun c => absurd c (by decide)) (fun c => ?_)
  refine lv_aload_n hx hb dX5_init_78 rfl (lv_at hl 1 rfl) ?_
  refine gr_X5_19 cx hw (nt_is hB (o := 1) (by decide) (by decide +kernel)) (nt_mr (o := 1) (k := 1) (v := 3) (by decide +kernel)) (nt_is hB (o := 3) (kn := (11, 6)) (by decide) (by decide +kernel)) dX5_init_79 ?_
  refine lv_iload_n hx hb dX5_init_82 rfl (lv_at hl 0 rfl) ?_
  refine nt_new (ci := 4) cx hw (by decide +kernel) rfl cl_X5_17 wn_X4 wi_X4 ⟨Nat.le_of_ble_eq_true rfl, Nat.le_of_ble_eq_true rfl⟩ dX5_init_83 (fun H hw => ?_)
  refine lv_dup hx hb dX5_init_86 rfl ?_
  refine nc_runN cx hw ln_X5_35 (cn_X4_init_17 l hB (nc_up mi (K0.1 + 1) 4 4)) rfl hl.1 rfl (Nat.le_of_ble_eq_true rfl) ⟨rfl, rfl, Nat.le_of_ble_eq_true rfl, Nat.le_of_ble_eq_true rfl⟩ ⟨Nat.le_of_ble_eq_true rfl, Nat.le_of_ble_eq_true rfl⟩ dX5_init_87 (fun H locs hw => ?_)
  refine nt_aast (n := 6) (v := 17) (o := 3) (ki := 11) (t0 := 2) (ci := 4) (q := 5) cx hB hw (by decide +kernel) (by decide) (by decide) (by decide +kernel) (by decide +kernel) (by decide) rfl rfl (nc_lit (j := 5) rfl (by decide) (by decide)) rfl dX5_init_90 (fun H locs hw => ?_)
  refine lv_iinc (v := 6) (lv' := [(1, .int 6), (0, .ref (K0.1 + 1))]) hx hb dX5_init_91 hl (k := 0) rfl (by decide) (by decide) rfl (fun ls hl => ?_)
  refine lv_goto (tgt := 72) hx hb dX5_init_94 (by decide) ?_
  refine lv_iload_n hx hb dX5_init_72 rfl (lv_at hl 0 rfl) ?_
  refine lv_bipush (v := 6) hx hb dX5_init_73 (by decide) ?_
  refine lv_icmp_ge (tgt := 97) hx hb dX5_init_75 (by decide) (fun c => ?_) (fun c => absurd (by decide) c)
  refine lv_aload_n hx hb dX5_init_97 rfl (lv_at hl 1 rfl) ?_
  have hLT : nc_LTown G (nc_kt nc_SN nc_RN K0 18 16) (K0.1 + 1) := ⟨(nt_is hB (o := 1) (by decide) (by decide +kernel)), (nt_mr (o := 1) (k := 0) (v := 2) (by decide +kernel)), (nt_is hB (o := 2) (by decide) (by decide +kernel)), (nc_all6 ⟨(nt_mr (o := 2) (k := 0) (v := 6) (by decide +kernel)), (nt_is hB (o := 6) (by decide) (by decide +kernel))⟩ ⟨(nt_mr (o := 2) (k := 1) (v := 7) (by decide +kernel)), (nt_is hB (o := 7) (by decide) (by decide +kernel))⟩ ⟨(nt_mr (o := 2) (k := 2) (v := 8) (by decide +kernel)), (nt_is hB (o := 8) (by decide) (by decide +kernel))⟩ ⟨(nt_mr (o := 2) (k := 3) (v := 9) (by decide +kernel)), (nt_is hB (o := 9) (by decide) (by decide +kernel))⟩ ⟨(nt_mr (o := 2) (k := 4) (v := 10) (by decide +kernel)), (nt_is hB (o := 10) (by decide) (by decide +kernel))⟩ ⟨(nt_mr (o := 2) (k := 5) (v := 11) (by decide +kernel)), (nt_is hB (o := 11) (by decide) (by decide +kernel))⟩), (nt_mr (o := 1) (k := 1) (v := 3) (by decide +kernel)), (nt_is hB (o := 3) (by decide) (by decide +kernel)), (nc_all6 ⟨(nt_mr (o := 3) (k := 0) (v := 12) (by decide +kernel)), (nt_is hB (o := 12) (by decide) (by decide +kernel))⟩ ⟨(nt_mr (o := 3) (k := 1) (v := 13) (by decide +kernel)), (nt_is hB (o := 13) (by decide) (by decide +kernel))⟩ ⟨(nt_mr (o := 3) (k := 2) (v := 14) (by decide +kernel)), (nt_is hB (o := 14) (by decide) (by decide +kernel))⟩ ⟨(nt_mr (o := 3) (k := 3) (v := 15) (by decide +kernel)), (nt_is hB (o := 15) (by decide) (by decide +kernel))⟩ ⟨(nt_mr (o := 3) (k := 4) (v := 16) (by decide +kernel)), (nt_is hB (o := 16) (by decide) (by decide +kernel))⟩ ⟨(nt_mr (o := 3) (k := 5) (v := 17) (by decide +kernel)), (nt_is hB (o := 17) (by decide) (by decide +kernel))⟩), (nt_mr (o := 1) (k := 2) (v := 4) (by decide +kernel)), (nt_is hB (o := 4) (by decide) (by decide +kernel)), (nt_mr (o := 1) (k := 3) (v := 5) (by decide +kernel)), (nt_is hB (o := 5) (by decide) (by decide +kernel))⟩
  refine nc_runV cx hw lk_X5_36 (c_X5_measure l hLT _ _ hf) (ci := 5) rfl (nt_is hB (o := 1) (by decide) (by decide +kernel)) rfl hl.1 rfl (Nat.le_of_ble_eq_true rfl) ⟨rfl, rfl, Nat.le_of_ble_eq_true rfl, Nat.le_of_ble_eq_true rfl⟩ ⟨Nat.le_of_ble_eq_true rfl, Nat.le_of_ble_eq_true rfl⟩ dX5_init_98 (fun H locs hw => ?_)
  exact nc_vretK cx hw hr hlocks ⟨rfl, rfl⟩ ⟨Nat.le_of_ble_eq_true rfl, Nat.le_of_ble_eq_true rfl⟩ dX5_init_101
abbrev rm_cn_X3_init_23 : Room := { frames := 1, cells := 0, slots := 0, locals := 40 }
set_option maxRecDepth 100000 in
set_option maxHeartbeats 4000000 in
theorem cn_X3_init_23 (l : Launch) {G : nc_G} {K0 : nc_K} (hB : G.2.2.1 ≤ K0.1) (mi : nc_Mem)   : nc_M l yX3_init cX3_init 1 none rm_cn_X3_init_23 0 0 G (nc_kt nc_SN nc_RN K0 24 21) (nc_kt nc_SN nc_RN K0 24 21) [.ref (K0.1 + 23)] mi mi none := by
  refine nc_meet_n (by decide) (Nat.le_of_ble_eq_true rfl) ?_
  intro p e s m args below meth c ls H cx hin hr hlocks hw hl
  have cx : nc_C p s m args c cX3_init 1 RX3 G := cx
  have hin : meth.name = "<init>" := hin
  have hl : lv_has ls 1 [(0, .ref (K0.1 + 23))] := hl
  have hx := cx.1
  have hb := cx.2.1
  refine lv_aload_n hx hb dX3_init_0 rfl (lv_at hl 0 rfl) ?_
  refine nc_oi cx hl.1 oi_X3 wo_i wo_c ⟨Nat.le_of_ble_eq_true rfl, Nat.le_of_ble_eq_true rfl⟩ dX3_init_1 ?_
  exact nc_vretK cx hw hr hlocks ⟨rfl, rfl⟩ ⟨Nat.le_of_ble_eq_true rfl, Nat.le_of_ble_eq_true rfl⟩ dX3_init_4
abbrev rm_cn_X3_init_24 : Room := { frames := 1, cells := 0, slots := 0, locals := 40 }
set_option maxRecDepth 100000 in
set_option maxHeartbeats 4000000 in
theorem cn_X3_init_24 (l : Launch) {G : nc_G} {K0 : nc_K} (hB : G.2.2.1 ≤ K0.1) (mi : nc_Mem)   : nc_M l yX3_init cX3_init 1 none rm_cn_X3_init_24 0 0 G (nc_kt nc_SN nc_RN K0 25 22) (nc_kt nc_SN nc_RN K0 25 22) [.ref (K0.1 + 24)] mi mi none := by
  refine nc_meet_n (by decide) (Nat.le_of_ble_eq_true rfl) ?_
  intro p e s m args below meth c ls H cx hin hr hlocks hw hl
  have cx : nc_C p s m args c cX3_init 1 RX3 G := cx
  have hin : meth.name = "<init>" := hin
  have hl : lv_has ls 1 [(0, .ref (K0.1 + 24))] := hl
  have hx := cx.1
  have hb := cx.2.1
  refine lv_aload_n hx hb dX3_init_0 rfl (lv_at hl 0 rfl) ?_
  refine nc_oi cx hl.1 oi_X3 wo_i wo_c ⟨Nat.le_of_ble_eq_true rfl, Nat.le_of_ble_eq_true rfl⟩ dX3_init_1 ?_
  exact nc_vretK cx hw hr hlocks ⟨rfl, rfl⟩ ⟨Nat.le_of_ble_eq_true rfl, Nat.le_of_ble_eq_true rfl⟩ dX3_init_4
abbrev rm_cn_X3_init_25 : Room := { frames := 1, cells := 0, slots := 0, locals := 40 }
set_option maxRecDepth 100000 in
set_option maxHeartbeats 4000000 in
theorem cn_X3_init_25 (l : Launch) {G : nc_G} {K0 : nc_K} (hB : G.2.2.1 ≤ K0.1) (mi : nc_Mem)   : nc_M l yX3_init cX3_init 1 none rm_cn_X3_init_25 0 0 G (nc_kt nc_SN nc_RN K0 26 23) (nc_kt nc_SN nc_RN K0 26 23) [.ref (K0.1 + 25)] mi mi none := by
  refine nc_meet_n (by decide) (Nat.le_of_ble_eq_true rfl) ?_
  intro p e s m args below meth c ls H cx hin hr hlocks hw hl
  have cx : nc_C p s m args c cX3_init 1 RX3 G := cx
  have hin : meth.name = "<init>" := hin
  have hl : lv_has ls 1 [(0, .ref (K0.1 + 25))] := hl
  have hx := cx.1
  have hb := cx.2.1
  refine lv_aload_n hx hb dX3_init_0 rfl (lv_at hl 0 rfl) ?_
  refine nc_oi cx hl.1 oi_X3 wo_i wo_c ⟨Nat.le_of_ble_eq_true rfl, Nat.le_of_ble_eq_true rfl⟩ dX3_init_1 ?_
  exact nc_vretK cx hw hr hlocks ⟨rfl, rfl⟩ ⟨Nat.le_of_ble_eq_true rfl, Nat.le_of_ble_eq_true rfl⟩ dX3_init_4
abbrev rm_cn_X3_init_26 : Room := { frames := 1, cells := 0, slots := 0, locals := 40 }
set_option maxRecDepth 100000 in
set_option maxHeartbeats 4000000 in
theorem cn_X3_init_26 (l : Launch) {G : nc_G} {K0 : nc_K} (hB : G.2.2.1 ≤ K0.1) (mi : nc_Mem)   : nc_M l yX3_init cX3_init 1 none rm_cn_X3_init_26 0 0 G (nc_kt nc_SN nc_RN K0 27 24) (nc_kt nc_SN nc_RN K0 27 24) [.ref (K0.1 + 26)] mi mi none := by
  refine nc_meet_n (by decide) (Nat.le_of_ble_eq_true rfl) ?_
  intro p e s m args below meth c ls H cx hin hr hlocks hw hl
  have cx : nc_C p s m args c cX3_init 1 RX3 G := cx
  have hin : meth.name = "<init>" := hin
  have hl : lv_has ls 1 [(0, .ref (K0.1 + 26))] := hl
  have hx := cx.1
  have hb := cx.2.1
  refine lv_aload_n hx hb dX3_init_0 rfl (lv_at hl 0 rfl) ?_
  refine nc_oi cx hl.1 oi_X3 wo_i wo_c ⟨Nat.le_of_ble_eq_true rfl, Nat.le_of_ble_eq_true rfl⟩ dX3_init_1 ?_
  exact nc_vretK cx hw hr hlocks ⟨rfl, rfl⟩ ⟨Nat.le_of_ble_eq_true rfl, Nat.le_of_ble_eq_true rfl⟩ dX3_init_4
abbrev rm_cn_X3_init_27 : Room := { frames := 1, cells := 0, slots := 0, locals := 40 }
set_option maxRecDepth 100000 in
set_option maxHeartbeats 4000000 in
theorem cn_X3_init_27 (l : Launch) {G : nc_G} {K0 : nc_K} (hB : G.2.2.1 ≤ K0.1) (mi : nc_Mem)   : nc_M l yX3_init cX3_init 1 none rm_cn_X3_init_27 0 0 G (nc_kt nc_SN nc_RN K0 28 25) (nc_kt nc_SN nc_RN K0 28 25) [.ref (K0.1 + 27)] mi mi none := by
  refine nc_meet_n (by decide) (Nat.le_of_ble_eq_true rfl) ?_
  intro p e s m args below meth c ls H cx hin hr hlocks hw hl
  have cx : nc_C p s m args c cX3_init 1 RX3 G := cx
  have hin : meth.name = "<init>" := hin
  have hl : lv_has ls 1 [(0, .ref (K0.1 + 27))] := hl
  have hx := cx.1
  have hb := cx.2.1
  refine lv_aload_n hx hb dX3_init_0 rfl (lv_at hl 0 rfl) ?_
  refine nc_oi cx hl.1 oi_X3 wo_i wo_c ⟨Nat.le_of_ble_eq_true rfl, Nat.le_of_ble_eq_true rfl⟩ dX3_init_1 ?_
  exact nc_vretK cx hw hr hlocks ⟨rfl, rfl⟩ ⟨Nat.le_of_ble_eq_true rfl, Nat.le_of_ble_eq_true rfl⟩ dX3_init_4
abbrev rm_cn_X3_init_28 : Room := { frames := 1, cells := 0, slots := 0, locals := 40 }
set_option maxRecDepth 100000 in
set_option maxHeartbeats 4000000 in
theorem cn_X3_init_28 (l : Launch) {G : nc_G} {K0 : nc_K} (hB : G.2.2.1 ≤ K0.1) (mi : nc_Mem)   : nc_M l yX3_init cX3_init 1 none rm_cn_X3_init_28 0 0 G (nc_kt nc_SN nc_RN K0 29 26) (nc_kt nc_SN nc_RN K0 29 26) [.ref (K0.1 + 28)] mi mi none := by
  refine nc_meet_n (by decide) (Nat.le_of_ble_eq_true rfl) ?_
  intro p e s m args below meth c ls H cx hin hr hlocks hw hl
  have cx : nc_C p s m args c cX3_init 1 RX3 G := cx
  have hin : meth.name = "<init>" := hin
  have hl : lv_has ls 1 [(0, .ref (K0.1 + 28))] := hl
  have hx := cx.1
  have hb := cx.2.1
  refine lv_aload_n hx hb dX3_init_0 rfl (lv_at hl 0 rfl) ?_
  refine nc_oi cx hl.1 oi_X3 wo_i wo_c ⟨Nat.le_of_ble_eq_true rfl, Nat.le_of_ble_eq_true rfl⟩ dX3_init_1 ?_
  exact nc_vretK cx hw hr hlocks ⟨rfl, rfl⟩ ⟨Nat.le_of_ble_eq_true rfl, Nat.le_of_ble_eq_true rfl⟩ dX3_init_4
abbrev rm_cn_X4_init_29 : Room := { frames := 1, cells := 0, slots := 0, locals := 40 }
set_option maxRecDepth 100000 in
set_option maxHeartbeats 4000000 in
theorem cn_X4_init_29 (l : Launch) {G : nc_G} {K0 : nc_K} (hB : G.2.2.1 ≤ K0.1) (mi : nc_Mem)   : nc_M l yX4_init cX4_init 1 none rm_cn_X4_init_29 0 0 G (nc_kt nc_SN nc_RN K0 30 27) (nc_kt nc_SN nc_RN K0 30 27) [.ref (K0.1 + 29)] mi mi none := by
  refine nc_meet_n (by decide) (Nat.le_of_ble_eq_true rfl) ?_
  intro p e s m args below meth c ls H cx hin hr hlocks hw hl
  have cx : nc_C p s m args c cX4_init 1 RX4 G := cx
  have hin : meth.name = "<init>" := hin
  have hl : lv_has ls 1 [(0, .ref (K0.1 + 29))] := hl
  have hx := cx.1
  have hb := cx.2.1
  refine lv_aload_n hx hb dX4_init_0 rfl (lv_at hl 0 rfl) ?_
  refine nc_oi cx hl.1 oi_X4 wo_i wo_c ⟨Nat.le_of_ble_eq_true rfl, Nat.le_of_ble_eq_true rfl⟩ dX4_init_1 ?_
  exact nc_vretK cx hw hr hlocks ⟨rfl, rfl⟩ ⟨Nat.le_of_ble_eq_true rfl, Nat.le_of_ble_eq_true rfl⟩ dX4_init_4
abbrev rm_cn_X4_init_30 : Room := { frames := 1, cells := 0, slots := 0, locals := 40 }
set_option maxRecDepth 100000 in
set_option maxHeartbeats 4000000 in
theorem cn_X4_init_30 (l : Launch) {G : nc_G} {K0 : nc_K} (hB : G.2.2.1 ≤ K0.1) (mi : nc_Mem)   : nc_M l yX4_init cX4_init 1 none rm_cn_X4_init_30 0 0 G (nc_kt nc_SN nc_RN K0 31 28) (nc_kt nc_SN nc_RN K0 31 28) [.ref (K0.1 + 30)] mi mi none := by
  refine nc_meet_n (by decide) (Nat.le_of_ble_eq_true rfl) ?_
  intro p e s m args below meth c ls H cx hin hr hlocks hw hl
  have cx : nc_C p s m args c cX4_init 1 RX4 G := cx
  have hin : meth.name = "<init>" := hin
  have hl : lv_has ls 1 [(0, .ref (K0.1 + 30))] := hl
  have hx := cx.1
  have hb := cx.2.1
  refine lv_aload_n hx hb dX4_init_0 rfl (lv_at hl 0 rfl) ?_
  refine nc_oi cx hl.1 oi_X4 wo_i wo_c ⟨Nat.le_of_ble_eq_true rfl, Nat.le_of_ble_eq_true rfl⟩ dX4_init_1 ?_
  exact nc_vretK cx hw hr hlocks ⟨rfl, rfl⟩ ⟨Nat.le_of_ble_eq_true rfl, Nat.le_of_ble_eq_true rfl⟩ dX4_init_4
abbrev rm_cn_X4_init_31 : Room := { frames := 1, cells := 0, slots := 0, locals := 40 }
set_option maxRecDepth 100000 in
set_option maxHeartbeats 4000000 in
theorem cn_X4_init_31 (l : Launch) {G : nc_G} {K0 : nc_K} (hB : G.2.2.1 ≤ K0.1) (mi : nc_Mem)   : nc_M l yX4_init cX4_init 1 none rm_cn_X4_init_31 0 0 G (nc_kt nc_SN nc_RN K0 32 29) (nc_kt nc_SN nc_RN K0 32 29) [.ref (K0.1 + 31)] mi mi none := by
  refine nc_meet_n (by decide) (Nat.le_of_ble_eq_true rfl) ?_
  intro p e s m args below meth c ls H cx hin hr hlocks hw hl
  have cx : nc_C p s m args c cX4_init 1 RX4 G := cx
  have hin : meth.name = "<init>" := hin
  have hl : lv_has ls 1 [(0, .ref (K0.1 + 31))] := hl
  have hx := cx.1
  have hb := cx.2.1
  refine lv_aload_n hx hb dX4_init_0 rfl (lv_at hl 0 rfl) ?_
  refine nc_oi cx hl.1 oi_X4 wo_i wo_c ⟨Nat.le_of_ble_eq_true rfl, Nat.le_of_ble_eq_true rfl⟩ dX4_init_1 ?_
  exact nc_vretK cx hw hr hlocks ⟨rfl, rfl⟩ ⟨Nat.le_of_ble_eq_true rfl, Nat.le_of_ble_eq_true rfl⟩ dX4_init_4
abbrev rm_cn_X4_init_32 : Room := { frames := 1, cells := 0, slots := 0, locals := 40 }
set_option maxRecDepth 100000 in
set_option maxHeartbeats 4000000 in
theorem cn_X4_init_32 (l : Launch) {G : nc_G} {K0 : nc_K} (hB : G.2.2.1 ≤ K0.1) (mi : nc_Mem)   : nc_M l yX4_init cX4_init 1 none rm_cn_X4_init_32 0 0 G (nc_kt nc_SN nc_RN K0 33 30) (nc_kt nc_SN nc_RN K0 33 30) [.ref (K0.1 + 32)] mi mi none := by
  refine nc_meet_n (by decide) (Nat.le_of_ble_eq_true rfl) ?_
  intro p e s m args below meth c ls H cx hin hr hlocks hw hl
  have cx : nc_C p s m args c cX4_init 1 RX4 G := cx
  have hin : meth.name = "<init>" := hin
  have hl : lv_has ls 1 [(0, .ref (K0.1 + 32))] := hl
  have hx := cx.1
  have hb := cx.2.1
  refine lv_aload_n hx hb dX4_init_0 rfl (lv_at hl 0 rfl) ?_
  refine nc_oi cx hl.1 oi_X4 wo_i wo_c ⟨Nat.le_of_ble_eq_true rfl, Nat.le_of_ble_eq_true rfl⟩ dX4_init_1 ?_
  exact nc_vretK cx hw hr hlocks ⟨rfl, rfl⟩ ⟨Nat.le_of_ble_eq_true rfl, Nat.le_of_ble_eq_true rfl⟩ dX4_init_4
abbrev rm_cn_X4_init_33 : Room := { frames := 1, cells := 0, slots := 0, locals := 40 }
set_option maxRecDepth 100000 in
set_option maxHeartbeats 4000000 in
theorem cn_X4_init_33 (l : Launch) {G : nc_G} {K0 : nc_K} (hB : G.2.2.1 ≤ K0.1) (mi : nc_Mem)   : nc_M l yX4_init cX4_init 1 none rm_cn_X4_init_33 0 0 G (nc_kt nc_SN nc_RN K0 34 31) (nc_kt nc_SN nc_RN K0 34 31) [.ref (K0.1 + 33)] mi mi none := by
  refine nc_meet_n (by decide) (Nat.le_of_ble_eq_true rfl) ?_
  intro p e s m args below meth c ls H cx hin hr hlocks hw hl
  have cx : nc_C p s m args c cX4_init 1 RX4 G := cx
  have hin : meth.name = "<init>" := hin
  have hl : lv_has ls 1 [(0, .ref (K0.1 + 33))] := hl
  have hx := cx.1
  have hb := cx.2.1
  refine lv_aload_n hx hb dX4_init_0 rfl (lv_at hl 0 rfl) ?_
  refine nc_oi cx hl.1 oi_X4 wo_i wo_c ⟨Nat.le_of_ble_eq_true rfl, Nat.le_of_ble_eq_true rfl⟩ dX4_init_1 ?_
  exact nc_vretK cx hw hr hlocks ⟨rfl, rfl⟩ ⟨Nat.le_of_ble_eq_true rfl, Nat.le_of_ble_eq_true rfl⟩ dX4_init_4
abbrev rm_cn_X4_init_34 : Room := { frames := 1, cells := 0, slots := 0, locals := 40 }
set_option maxRecDepth 100000 in
set_option maxHeartbeats 4000000 in
theorem cn_X4_init_34 (l : Launch) {G : nc_G} {K0 : nc_K} (hB : G.2.2.1 ≤ K0.1) (mi : nc_Mem)   : nc_M l yX4_init cX4_init 1 none rm_cn_X4_init_34 0 0 G (nc_kt nc_SN nc_RN K0 35 32) (nc_kt nc_SN nc_RN K0 35 32) [.ref (K0.1 + 34)] mi mi none := by
  refine nc_meet_n (by decide) (Nat.le_of_ble_eq_true rfl) ?_
  intro p e s m args below meth c ls H cx hin hr hlocks hw hl
  have cx : nc_C p s m args c cX4_init 1 RX4 G := cx
  have hin : meth.name = "<init>" := hin
  have hl : lv_has ls 1 [(0, .ref (K0.1 + 34))] := hl
  have hx := cx.1
  have hb := cx.2.1
  refine lv_aload_n hx hb dX4_init_0 rfl (lv_at hl 0 rfl) ?_
  refine nc_oi cx hl.1 oi_X4 wo_i wo_c ⟨Nat.le_of_ble_eq_true rfl, Nat.le_of_ble_eq_true rfl⟩ dX4_init_1 ?_
  exact nc_vretK cx hw hr hlocks ⟨rfl, rfl⟩ ⟨Nat.le_of_ble_eq_true rfl, Nat.le_of_ble_eq_true rfl⟩ dX4_init_4
abbrev rm_cn_X5_init_18 : Room := { frames := 6, cells := 16, slots := 212, locals := 200 }
set_option maxRecDepth 100000 in
set_option maxHeartbeats 4000000 in
theorem cn_X5_init_18 (l : Launch) {G : nc_G} {K0 : nc_K} (hB : G.2.2.1 ≤ K0.1) (mi : nc_Mem) (mi' : nc_Mem) (hf : f_X5_measure (nc_up mi (K0.1 + 18) 4 4) (K0.1 + 18) = some mi') : nc_M l yX5_init cX5_init 2 none rm_cn_X5_init_18 16 212 G (nc_kt nc_SN nc_RN K0 19 17) (nc_kt nc_SN nc_RN K0 35 33) [.ref (K0.1 + 18)] mi mi' none := by
  refine nc_meet_n (by decide) (Nat.le_of_ble_eq_true rfl) ?_
  intro p e s m args below meth c ls H cx hin hr hlocks hw hl
  have cx : nc_C p s m args c cX5_init 2 RX5 G := cx
  have hin : meth.name = "<init>" := hin
  have hl : lv_has ls 2 [(0, .ref (K0.1 + 18))] := hl
  have hx := cx.1
  have hb := cx.2.1
  refine lv_aload_n hx hb dX5_init_0 rfl (lv_at hl 0 rfl) ?_
  refine nc_oi cx hl.1 oi_X5 wo_i wo_c ⟨Nat.le_of_ble_eq_true rfl, Nat.le_of_ble_eq_true rfl⟩ dX5_init_1 ?_
  refine lv_aload_n hx hb dX5_init_4 rfl (lv_at hl 0 rfl) ?_
  refine lv_bipush (v := 6) hx hb dX5_init_5 (by decide) ?_
  refine nt_ref (N := 6) (ki := 10) (t0 := 1) cx hw (by decide +kernel) (by decide) cl_X5_9 (by decide) rfl (by decide) (by decide) (Nat.le_of_ble_eq_true rfl) ⟨Nat.le_of_ble_eq_true rfl, Nat.le_of_ble_eq_true rfl⟩ dX5_init_7 (fun H hw => ?_)
  refine nt_putF (ci := 5) (k := 0) (ty := .array (.object "NobodyCarries$Person")) cx hB hw (by decide +kernel) (by decide) (by decide +kernel) rfl (by decide) rfl rfl rfl hin (by decide +kernel) rfl rfl fl_X5_11 dX5_init_10 (fun H locs hw => ?_)
  refine lv_aload_n hx hb dX5_init_13 rfl (lv_at hl 0 rfl) ?_
  refine lv_bipush (v := 6) hx hb dX5_init_14 (by decide) ?_
  refine nt_ref (N := 6) (ki := 11) (t0 := 2) cx hw (by decide +kernel) (by decide) cl_X5_17 (by decide) rfl (by decide) (by decide) (Nat.le_of_ble_eq_true rfl) ⟨Nat.le_of_ble_eq_true rfl, Nat.le_of_ble_eq_true rfl⟩ dX5_init_16 (fun H hw => ?_)
  refine nt_putF (ci := 5) (k := 1) (ty := .array (.object "NobodyCarries$Thing")) cx hB hw (by decide +kernel) (by decide) (by decide +kernel) rfl (by decide) rfl rfl rfl hin (by decide +kernel) rfl rfl fl_X5_19 dX5_init_19 (fun H locs hw => ?_)
  refine lv_aload_n hx hb dX5_init_22 rfl (lv_at hl 0 rfl) ?_
  refine lv_bipush (v := 49) hx hb dX5_init_23 (by decide) ?_
  refine nt_int (N := 49) cx hw (by decide +kernel) wa_int (by decide) (by decide) (Nat.le_of_ble_eq_true rfl) ⟨Nat.le_of_ble_eq_true rfl, Nat.le_of_ble_eq_true rfl⟩ dX5_init_25 (fun H hw => ?_)
  refine nt_putF (ci := 5) (k := 2) (ty := .array .int) cx hB hw (by decide +kernel) (by decide) (by decide +kernel) rfl (by decide) rfl rfl rfl hin (by decide +kernel) rfl rfl fl_X5_23 dX5_init_27 (fun H locs hw => ?_)
  refine lv_aload_n hx hb dX5_init_30 rfl (lv_at hl 0 rfl) ?_
  refine lv_bipush (v := 49) hx hb dX5_init_31 (by decide) ?_
  refine nt_int (N := 49) cx hw (by decide +kernel) wa_int (by decide) (by decide) (Nat.le_of_ble_eq_true rfl) ⟨Nat.le_of_ble_eq_true rfl, Nat.le_of_ble_eq_true rfl⟩ dX5_init_33 (fun H hw => ?_)
  refine nt_putF (ci := 5) (k := 3) (ty := .array .int) cx hB hw (by decide +kernel) (by decide) (by decide +kernel) rfl (by decide) rfl rfl rfl hin (by decide +kernel) rfl rfl fl_X5_27 dX5_init_35 (fun H locs hw => ?_)
  refine lv_aload_n hx hb dX5_init_38 rfl (lv_at hl 0 rfl) ?_
  refine lv_iconst (v := 4) hx hb dX5_init_39 (by decide) ?_
  refine pi_X5_30 cx hw (nt_is hB (o := 18) (by decide) (by decide +kernel)) dX5_init_40 (fun mi1 H locs emi1 hw => ?_)
  subst emi1
  refine lv_iconst (v := 0) hx hb dX5_init_43 (by decide) ?_
  refine lv_istore_n (lv' := [(1, .int 0), (0, .ref (K0.1 + 18))]) hx hb dX5_init_44 rfl hl (by decide) rfl (fun ls hl => ?_)
  refine lv_iload_n hx hb dX5_init_45 rfl (lv_at hl 0 rfl) ?_
  refine lv_bipush (v := 6) hx hb dX5_init_46 (by decide) ?_
  refine lv_icmp_ge (tgt := 70) hx hb dX5_init_48 (by decide) (fun c => absurd c (by decide)) (fun c => ?_)
  refine lv_aload_n hx hb dX5_init_51 rfl (lv_at hl 1 rfl) ?_
  refine gr_X5_11 cx hw (nt_is hB (o := 18) (by decide) (by decide +kernel)) (nt_mr (o := 18) (k := 0) (v := 19) (by decide +kernel)) (nt_is hB (o := 19) (kn := (10, 6)) (by decide) (by decide +kernel)) dX5_init_52 ?_
  refine lv_iload_n hx hb dX5_init_55 rfl (lv_at hl 0 rfl) ?_
  refine nt_new (ci := 3) cx hw (by decide +kernel) rfl cl_X5_9 wn_X3 wi_X3 ⟨Nat.le_of_ble_eq_true rfl, Nat.le_of_ble_eq_true rfl⟩ dX5_init_56 (fun H hw => ?_)
  refine lv_dup hx hb dX5_init_59 rfl ?_
  refine nc_runN cx hw ln_X5_34 (cn_X3_init_23 l hB (nc_up mi (K0.1 + 18) 4 4)) rfl hl.1 rfl (Nat.le_of_ble_eq_true rfl) ⟨rfl, rfl, Nat.le_of_ble_eq_true rfl, Nat.le_of_ble_eq_true rfl⟩ ⟨Nat.le_of_ble_eq_true rfl, Nat.le_of_ble_eq_true rfl⟩ dX5_init_60 (fun H locs hw => ?_)
  refine nt_aast (n := 6) (v := 23) (o := 19) (ki := 10) (t0 := 1) (ci := 3) (q := 0) cx hB hw (by decide +kernel) (by decide) (by decide) (by decide +kernel) (by decide +kernel) (by decide) rfl rfl (nc_lit (j := 0) rfl (by decide) (by decide)) rfl dX5_init_63 (fun H locs hw => ?_)
  refine lv_iinc (v := 1) (lv' := [(1, .int 1), (0, .ref (K0.1 + 18))]) hx hb dX5_init_64 hl (k := 0) rfl (by decide) (by decide) rfl (fun ls hl => ?_)
  refine lv_goto (tgt := 45) hx hb dX5_init_67 (by decide) ?_
  refine lv_iload_n hx hb dX5_init_45 rfl (lv_at hl 0 rfl) ?_
  refine lv_bipush (v := 6) hx hb dX5_init_46 (by decide) ?_
  refine lv_icmp_ge (tgt := 70) hx hb dX5_init_48 (by decide) (fun c => absurd c (by decide)) (fun c => ?_)
  refine lv_aload_n hx hb dX5_init_51 rfl (lv_at hl 1 rfl) ?_
  refine gr_X5_11 cx hw (nt_is hB (o := 18) (by decide) (by decide +kernel)) (nt_mr (o := 18) (k := 0) (v := 19) (by decide +kernel)) (nt_is hB (o := 19) (kn := (10, 6)) (by decide) (by decide +kernel)) dX5_init_52 ?_
  refine lv_iload_n hx hb dX5_init_55 rfl (lv_at hl 0 rfl) ?_
  refine nt_new (ci := 3) cx hw (by decide +kernel) rfl cl_X5_9 wn_X3 wi_X3 ⟨Nat.le_of_ble_eq_true rfl, Nat.le_of_ble_eq_true rfl⟩ dX5_init_56 (fun H hw => ?_)
  refine lv_dup hx hb dX5_init_59 rfl ?_
  refine nc_runN cx hw ln_X5_34 (cn_X3_init_24 l hB (nc_up mi (K0.1 + 18) 4 4)) rfl hl.1 rfl (Nat.le_of_ble_eq_true rfl) ⟨rfl, rfl, Nat.le_of_ble_eq_true rfl, Nat.le_of_ble_eq_true rfl⟩ ⟨Nat.le_of_ble_eq_true rfl, Nat.le_of_ble_eq_true rfl⟩ dX5_init_60 (fun H locs hw => ?_)
  refine nt_aast (n := 6) (v := 24) (o := 19) (ki := 10) (t0 := 1) (ci := 3) (q := 1) cx hB hw (by decide +kernel) (by decide) (by decide) (by decide +kernel) (by decide +kernel) (by decide) rfl rfl (nc_lit (j := 1) rfl (by decide) (by decide)) rfl dX5_init_63 (fun H locs hw => ?_)
  refine lv_iinc (v := 2) (lv' := [(1, .int 2), (0, .ref (K0.1 + 18))]) hx hb dX5_init_64 hl (k := 0) rfl (by decide) (by decide) rfl (fun ls hl => ?_)
  refine lv_goto (tgt := 45) hx hb dX5_init_67 (by decide) ?_
  refine lv_iload_n hx hb dX5_init_45 rfl (lv_at hl 0 rfl) ?_
  refine lv_bipush (v := 6) hx hb dX5_init_46 (by decide) ?_
  refine lv_icmp_ge (tgt := 70) hx hb dX5_init_48 (by decide) (fun c => absurd c (by decide)) (fun c => ?_)
  refine lv_aload_n hx hb dX5_init_51 rfl (lv_at hl 1 rfl) ?_
  refine gr_X5_11 cx hw (nt_is hB (o := 18) (by decide) (by decide +kernel)) (nt_mr (o := 18) (k := 0) (v := 19) (by decide +kernel)) (nt_is hB (o := 19) (kn := (10, 6)) (by decide) (by decide +kernel)) dX5_init_52 ?_
  refine lv_iload_n hx hb dX5_init_55 rfl (lv_at hl 0 rfl) ?_
  refine nt_new (ci := 3) cx hw (by decide +kernel) rfl cl_X5_9 wn_X3 wi_X3 ⟨Nat.le_of_ble_eq_true rfl, Nat.le_of_ble_eq_true rfl⟩ dX5_init_56 (fun H hw => ?_)
  refine lv_dup hx hb dX5_init_59 rfl ?_
  refine nc_runN cx hw ln_X5_34 (cn_X3_init_25 l hB (nc_up mi (K0.1 + 18) 4 4)) rfl hl.1 rfl (Nat.le_of_ble_eq_true rfl) ⟨rfl, rfl, Nat.le_of_ble_eq_true rfl, Nat.le_of_ble_eq_true rfl⟩ ⟨Nat.le_of_ble_eq_true rfl, Nat.le_of_ble_eq_true rfl⟩ dX5_init_60 (fun H locs hw => ?_)
  refine nt_aast (n := 6) (v := 25) (o := 19) (ki := 10) (t0 := 1) (ci := 3) (q := 2) cx hB hw (by decide +kernel) (by decide) (by decide) (by decide +kernel) (by decide +kernel) (by decide) rfl rfl (nc_lit (j := 2) rfl (by decide) (by decide)) rfl dX5_init_63 (fun H locs hw => ?_)
  refine lv_iinc (v := 3) (lv' := [(1, .int 3), (0, .ref (K0.1 + 18))]) hx hb dX5_init_64 hl (k := 0) rfl (by decide) (by decide) rfl (fun ls hl => ?_)
  refine lv_goto (tgt := 45) hx hb dX5_init_67 (by decide) ?_
  refine lv_iload_n hx hb dX5_init_45 rfl (lv_at hl 0 rfl) ?_
  refine lv_bipush (v := 6) hx hb dX5_init_46 (by decide) ?_
  refine lv_icmp_ge (tgt := 70) hx hb dX5_init_48 (by decide) (fun c => absurd c (by decide)) (fun c => ?_)
  refine lv_aload_n hx hb dX5_init_51 rfl (lv_at hl 1 rfl) ?_
  refine gr_X5_11 cx hw (nt_is hB (o := 18) (by decide) (by decide +kernel)) (nt_mr (o := 18) (k := 0) (v := 19) (by decide +kernel)) (nt_is hB (o := 19) (kn := (10, 6)) (by decide) (by decide +kernel)) dX5_init_52 ?_
  refine lv_iload_n hx hb dX5_init_55 rfl (lv_at hl 0 rfl) ?_
  refine nt_new (ci := 3) cx hw (by decide +kernel) rfl cl_X5_9 wn_X3 wi_X3 ⟨Nat.le_of_ble_eq_true rfl, Nat.le_of_ble_eq_true rfl⟩ dX5_init_56 (fun H hw => ?_)
  refine lv_dup hx hb dX5_init_59 rfl ?_
  refine nc_runN cx hw ln_X5_34 (cn_X3_init_26 l hB (nc_up mi (K0.1 + 18) 4 4)) rfl hl.1 rfl (Nat.le_of_ble_eq_true rfl) ⟨rfl, rfl, Nat.le_of_ble_eq_true rfl, Nat.le_of_ble_eq_true rfl⟩ ⟨Nat.le_of_ble_eq_true rfl, Nat.le_of_ble_eq_true rfl⟩ dX5_init_60 (fun H locs hw => ?_)
  refine nt_aast (n := 6) (v := 26) (o := 19) (ki := 10) (t0 := 1) (ci := 3) (q := 3) cx hB hw (by decide +kernel) (by decide) (by decide) (by decide +kernel) (by decide +kernel) (by decide) rfl rfl (nc_lit (j := 3) rfl (by decide) (by decide)) rfl dX5_init_63 (fun H locs hw => ?_)
  refine lv_iinc (v := 4) (lv' := [(1, .int 4), (0, .ref (K0.1 + 18))]) hx hb dX5_init_64 hl (k := 0) rfl (by decide) (by decide) rfl (fun ls hl => ?_)
  refine lv_goto (tgt := 45) hx hb dX5_init_67 (by decide) ?_
  refine lv_iload_n hx hb dX5_init_45 rfl (lv_at hl 0 rfl) ?_
  refine lv_bipush (v := 6) hx hb dX5_init_46 (by decide) ?_
  refine lv_icmp_ge (tgt := 70) hx hb dX5_init_48 (by decide) (fun c => absurd c (by decide)) (fun c => ?_)
  refine lv_aload_n hx hb dX5_init_51 rfl (lv_at hl 1 rfl) ?_
  refine gr_X5_11 cx hw (nt_is hB (o := 18) (by decide) (by decide +kernel)) (nt_mr (o := 18) (k := 0) (v := 19) (by decide +kernel)) (nt_is hB (o := 19) (kn := (10, 6)) (by decide) (by decide +kernel)) dX5_init_52 ?_
  refine lv_iload_n hx hb dX5_init_55 rfl (lv_at hl 0 rfl) ?_
  refine nt_new (ci := 3) cx hw (by decide +kernel) rfl cl_X5_9 wn_X3 wi_X3 ⟨Nat.le_of_ble_eq_true rfl, Nat.le_of_ble_eq_true rfl⟩ dX5_init_56 (fun H hw => ?_)
  refine lv_dup hx hb dX5_init_59 rfl ?_
  refine nc_runN cx hw ln_X5_34 (cn_X3_init_27 l hB (nc_up mi (K0.1 + 18) 4 4)) rfl hl.1 rfl (Nat.le_of_ble_eq_true rfl) ⟨rfl, rfl, Nat.le_of_ble_eq_true rfl, Nat.le_of_ble_eq_true rfl⟩ ⟨Nat.le_of_ble_eq_true rfl, Nat.le_of_ble_eq_true rfl⟩ dX5_init_60 (fun H locs hw => ?_)
  refine nt_aast (n := 6) (v := 27) (o := 19) (ki := 10) (t0 := 1) (ci := 3) (q := 4) cx hB hw (by decide +kernel) (by decide) (by decide) (by decide +kernel) (by decide +kernel) (by decide) rfl rfl (nc_lit (j := 4) rfl (by decide) (by decide)) rfl dX5_init_63 (fun H locs hw => ?_)
  refine lv_iinc (v := 5) (lv' := [(1, .int 5), (0, .ref (K0.1 + 18))]) hx hb dX5_init_64 hl (k := 0) rfl (by decide) (by decide) rfl (fun ls hl => ?_)
  refine lv_goto (tgt := 45) hx hb dX5_init_67 (by decide) ?_
  refine lv_iload_n hx hb dX5_init_45 rfl (lv_at hl 0 rfl) ?_
  refine lv_bipush (v := 6) hx hb dX5_init_46 (by decide) ?_
  refine lv_icmp_ge (tgt := 70) hx hb dX5_init_48 (by decide) (fun c => absurd c (by decide)) (fun c => ?_)
  refine lv_aload_n hx hb dX5_init_51 rfl (lv_at hl 1 rfl) ?_
  refine gr_X5_11 cx hw (nt_is hB (o := 18) (by decide) (by decide +kernel)) (nt_mr (o := 18) (k := 0) (v := 19) (by decide +kernel)) (nt_is hB (o := 19) (kn := (10, 6)) (by decide) (by decide +kernel)) dX5_init_52 ?_
  refine lv_iload_n hx hb dX5_init_55 rfl (lv_at hl 0 rfl) ?_
  refine nt_new (ci := 3) cx hw (by decide +kernel) rfl cl_X5_9 wn_X3 wi_X3 ⟨Nat.le_of_ble_eq_true rfl, Nat.le_of_ble_eq_true rfl⟩ dX5_init_56 (fun H hw => ?_)
  refine lv_dup hx hb dX5_init_59 rfl ?_
  refine nc_runN cx hw ln_X5_34 (cn_X3_init_28 l hB (nc_up mi (K0.1 + 18) 4 4)) rfl hl.1 rfl (Nat.le_of_ble_eq_true rfl) ⟨rfl, rfl, Nat.le_of_ble_eq_true rfl, Nat.le_of_ble_eq_true rfl⟩ ⟨Nat.le_of_ble_eq_true rfl, Nat.le_of_ble_eq_true rfl⟩ dX5_init_60 (fun H locs hw => ?_)
  refine nt_aast (n := 6) (v := 28) (o := 19) (ki := 10) (t0 := 1) (ci := 3) (q := 5) cx hB hw (by decide +kernel) (by decide) (by decide) (by decide +kernel) (by decide +kernel) (by decide) rfl rfl (nc_lit (j := 5) rfl (by decide) (by decide)) rfl dX5_init_63 (fun H locs hw => ?_)
  refine lv_iinc (v := 6) (lv' := [(1, .int 6), (0, .ref (K0.1 + 18))]) hx hb dX5_init_64 hl (k := 0) rfl (by decide) (by decide) rfl (fun ls hl => ?_)
  refine lv_goto (tgt := 45) hx hb dX5_init_67 (by decide) ?_
  refine lv_iload_n hx hb dX5_init_45 rfl (lv_at hl 0 rfl) ?_
  refine lv_bipush (v := 6) hx hb dX5_init_46 (by decide) ?_
  refine lv_icmp_ge (tgt := 70) hx hb dX5_init_48 (by decide) (fun c => ?_) (fun c => absurd (by decide) c)
  refine lv_iconst (v := 0) hx hb dX5_init_70 (by decide) ?_
  refine lv_istore_n (lv' := [(1, .int 0), (0, .ref (K0.1 + 18))]) hx hb dX5_init_71 rfl hl (by decide) rfl (fun ls hl => ?_)
  refine lv_iload_n hx hb dX5_init_72 rfl (lv_at hl 0 rfl) ?_
  refine lv_bipush (v := 6) hx hb dX5_init_73 (by decide) ?_
  refine lv_icmp_ge (tgt := 97) hx hb dX5_init_75 (by decide) (fun c => absurd c (by decide)) (fun c => ?_)
  refine lv_aload_n hx hb dX5_init_78 rfl (lv_at hl 1 rfl) ?_
  refine gr_X5_19 cx hw (nt_is hB (o := 18) (by decide) (by decide +kernel)) (nt_mr (o := 18) (k := 1) (v := 20) (by decide +kernel)) (nt_is hB (o := 20) (kn := (11, 6)) (by decide) (by decide +kernel)) dX5_init_79 ?_
  refine lv_iload_n hx hb dX5_init_82 rfl (lv_at hl 0 rfl) ?_
  refine nt_new (ci := 4) cx hw (by decide +kernel) rfl cl_X5_17 wn_X4 wi_X4 ⟨Nat.le_of_ble_eq_true rfl, Nat.le_of_ble_eq_true rfl⟩ dX5_init_83 (fun H hw => ?_)
  refine lv_dup hx hb dX5_init_86 rfl ?_
  refine nc_runN cx hw ln_X5_35 (cn_X4_init_29 l hB (nc_up mi (K0.1 + 18) 4 4)) rfl hl.1 rfl (Nat.le_of_ble_eq_true rfl) ⟨rfl, rfl, Nat.le_of_ble_eq_true rfl, Nat.le_of_ble_eq_true rfl⟩ ⟨Nat.le_of_ble_eq_true rfl, Nat.le_of_ble_eq_true rfl⟩ dX5_init_87 (fun H locs hw => ?_)
  refine nt_aast (n := 6) (v := 29) (o := 20) (ki := 11) (t0 := 2) (ci := 4) (q := 0) cx hB hw (by decide +kernel) (by decide) (by decide) (by decide +kernel) (by decide +kernel) (by decide) rfl rfl (nc_lit (j := 0) rfl (by decide) (by decide)) rfl dX5_init_90 (fun H locs hw => ?_)
  refine lv_iinc (v := 1) (lv' := [(1, .int 1), (0, .ref (K0.1 + 18))]) hx hb dX5_init_91 hl (k := 0) rfl (by decide) (by decide) rfl (fun ls hl => ?_)
  refine lv_goto (tgt := 72) hx hb dX5_init_94 (by decide) ?_
  refine lv_iload_n hx hb dX5_init_72 rfl (lv_at hl 0 rfl) ?_
  refine lv_bipush (v := 6) hx hb dX5_init_73 (by decide) ?_
  refine lv_icmp_ge (tgt := 97) hx hb dX5_init_75 (by decide) (fun c => absurd c (by decide)) (fun c => ?_)
  refine lv_aload_n hx hb dX5_init_78 rfl (lv_at hl 1 rfl) ?_
  refine gr_X5_19 cx hw (nt_is hB (o := 18) (by decide) (by decide +kernel)) (nt_mr (o := 18) (k := 1) (v := 20) (by decide +kernel)) (nt_is hB (o := 20) (kn := (11, 6)) (by decide) (by decide +kernel)) dX5_init_79 ?_
  refine lv_iload_n hx hb dX5_init_82 rfl (lv_at hl 0 rfl) ?_
  refine nt_new (ci := 4) cx hw (by decide +kernel) rfl cl_X5_17 wn_X4 wi_X4 ⟨Nat.le_of_ble_eq_true rfl, Nat.le_of_ble_eq_true rfl⟩ dX5_init_83 (fun H hw => ?_)
  refine lv_dup hx hb dX5_init_86 rfl ?_
  refine nc_runN cx hw ln_X5_35 (cn_X4_init_30 l hB (nc_up mi (K0.1 + 18) 4 4)) rfl hl.1 rfl (Nat.le_of_ble_eq_true rfl) ⟨rfl, rfl, Nat.le_of_ble_eq_true rfl, Nat.le_of_ble_eq_true rfl⟩ ⟨Nat.le_of_ble_eq_true rfl, Nat.le_of_ble_eq_true rfl⟩ dX5_init_87 (fun H locs hw => ?_)
  refine nt_aast (n := 6) (v := 30) (o := 20) (ki := 11) (t0 := 2) (ci := 4) (q := 1) cx hB hw (by decide +kernel) (by decide) (by decide) (by decide +kernel) (by decide +kernel) (by decide) rfl rfl (nc_lit (j := 1) rfl (by decide) (by decide)) rfl dX5_init_90 (fun H locs hw => ?_)
  refine lv_iinc (v := 2) (lv' := [(1, .int 2), (0, .ref (K0.1 + 18))]) hx hb dX5_init_91 hl (k := 0) rfl (by decide) (by decide) rfl (fun ls hl => ?_)
  refine lv_goto (tgt := 72) hx hb dX5_init_94 (by decide) ?_
  refine lv_iload_n hx hb dX5_init_72 rfl (lv_at hl 0 rfl) ?_
  refine lv_bipush (v := 6) hx hb dX5_init_73 (by decide) ?_
  refine lv_icmp_ge (tgt := 97) hx hb dX5_init_75 (by decide) (fun c => absurd c (by decide)) (fun c => ?_)
  refine lv_aload_n hx hb dX5_init_78 rfl (lv_at hl 1 rfl) ?_
  refine gr_X5_19 cx hw (nt_is hB (o := 18) (by decide) (by decide +kernel)) (nt_mr (o := 18) (k := 1) (v := 20) (by decide +kernel)) (nt_is hB (o := 20) (kn := (11, 6)) (by decide) (by decide +kernel)) dX5_init_79 ?_
  refine lv_iload_n hx hb dX5_init_82 rfl (lv_at hl 0 rfl) ?_
  refine nt_new (ci := 4) cx hw (by decide +kernel) rfl cl_X5_17 wn_X4 wi_X4 ⟨Nat.le_of_ble_eq_true rfl, Nat.le_of_ble_eq_true rfl⟩ dX5_init_83 (fun H hw => ?_)
  refine lv_dup hx hb dX5_init_86 rfl ?_
  refine nc_runN cx hw ln_X5_35 (cn_X4_init_31 l hB (nc_up mi (K0.1 + 18) 4 4)) rfl hl.1 rfl (Nat.le_of_ble_eq_true rfl) ⟨rfl, rfl, Nat.le_of_ble_eq_true rfl, Nat.le_of_ble_eq_true rfl⟩ ⟨Nat.le_of_ble_eq_true rfl, Nat.le_of_ble_eq_true rfl⟩ dX5_init_87 (fun H locs hw => ?_)
  refine nt_aast (n := 6) (v := 31) (o := 20) (ki := 11) (t0 := 2) (ci := 4) (q := 2) cx hB hw (by decide +kernel) (by decide) (by decide) (by decide +kernel) (by decide +kernel) (by decide) rfl rfl (nc_lit (j := 2) rfl (by decide) (by decide)) rfl dX5_init_90 (fun H locs hw => ?_)
  refine lv_iinc (v := 3) (lv' := [(1, .int 3), (0, .ref (K0.1 + 18))]) hx hb dX5_init_91 hl (k := 0) rfl (by decide) (by decide) rfl (fun ls hl => ?_)
  refine lv_goto (tgt := 72) hx hb dX5_init_94 (by decide) ?_
  refine lv_iload_n hx hb dX5_init_72 rfl (lv_at hl 0 rfl) ?_
  refine lv_bipush (v := 6) hx hb dX5_init_73 (by decide) ?_
  refine lv_icmp_ge (tgt := 97) hx hb dX5_init_75 (by decide) (fun c => absurd c (by decide)) (fun c => ?_)
  refine lv_aload_n hx hb dX5_init_78 rfl (lv_at hl 1 rfl) ?_
  refine gr_X5_19 cx hw (nt_is hB (o := 18) (by decide) (by decide +kernel)) (nt_mr (o := 18) (k := 1) (v := 20) (by decide +kernel)) (nt_is hB (o := 20) (kn := (11, 6)) (by decide) (by decide +kernel)) dX5_init_79 ?_
  refine lv_iload_n hx hb dX5_init_82 rfl (lv_at hl 0 rfl) ?_
  refine nt_new (ci := 4) cx hw (by decide +kernel) rfl cl_X5_17 wn_X4 wi_X4 ⟨Nat.le_of_ble_eq_true rfl, Nat.le_of_ble_eq_true rfl⟩ dX5_init_83 (fun H hw => ?_)
  refine lv_dup hx hb dX5_init_86 rfl ?_
  refine nc_runN cx hw ln_X5_35 (cn_X4_init_32 l hB (nc_up mi (K0.1 + 18) 4 4)) rfl hl.1 rfl (Nat.le_of_ble_eq_true rfl) ⟨rfl, rfl, Nat.le_of_ble_eq_true rfl, Nat.le_of_ble_eq_true rfl⟩ ⟨Nat.le_of_ble_eq_true rfl, Nat.le_of_ble_eq_true rfl⟩ dX5_init_87 (fun H locs hw => ?_)
  refine nt_aast (n := 6) (v := 32) (o := 20) (ki := 11) (t0 := 2) (ci := 4) (q := 3) cx hB hw (by decide +kernel) (by decide) (by decide) (by decide +kernel) (by decide +kernel) (by decide) rfl rfl (nc_lit (j := 3) rfl (by decide) (by decide)) rfl dX5_init_90 (fun H locs hw => ?_)
  refine lv_iinc (v := 4) (lv' := [(1, .int 4), (0, .ref (K0.1 + 18))]) hx hb dX5_init_91 hl (k := 0) rfl (by decide) (by decide) rfl (fun ls hl => ?_)
  refine lv_goto (tgt := 72) hx hb dX5_init_94 (by decide) ?_
  refine lv_iload_n hx hb dX5_init_72 rfl (lv_at hl 0 rfl) ?_
  refine lv_bipush (v := 6) hx hb dX5_init_73 (by decide) ?_
  refine lv_icmp_ge (tgt := 97) hx hb dX5_init_75 (by decide) (fun c => absurd c (by decide)) (fun c => ?_)
  refine lv_aload_n hx hb dX5_init_78 rfl (lv_at hl 1 rfl) ?_
  refine gr_X5_19 cx hw (nt_is hB (o := 18) (by decide) (by decide +kernel)) (nt_mr (o := 18) (k := 1) (v := 20) (by decide +kernel)) (nt_is hB (o := 20) (kn := (11, 6)) (by decide) (by decide +kernel)) dX5_init_79 ?_
  refine lv_iload_n hx hb dX5_init_82 rfl (lv_at hl 0 rfl) ?_
  refine nt_new (ci := 4) cx hw (by decide +kernel) rfl cl_X5_17 wn_X4 wi_X4 ⟨Nat.le_of_ble_eq_true rfl, Nat.le_of_ble_eq_true rfl⟩ dX5_init_83 (fun H hw => ?_)
  refine lv_dup hx hb dX5_init_86 rfl ?_
  refine nc_runN cx hw ln_X5_35 (cn_X4_init_33 l hB (nc_up mi (K0.1 + 18) 4 4)) rfl hl.1 rfl (Nat.le_of_ble_eq_true rfl) ⟨rfl, rfl, Nat.le_of_ble_eq_true rfl, Nat.le_of_ble_eq_true rfl⟩ ⟨Nat.le_of_ble_eq_true rfl, Nat.le_of_ble_eq_true rfl⟩ dX5_init_87 (fun H locs hw => ?_)
  refine nt_aast (n := 6) (v := 33) (o := 20) (ki := 11) (t0 := 2) (ci := 4) (q := 4) cx hB hw (by decide +kernel) (by decide) (by decide) (by decide +kernel) (by decide +kernel) (by decide) rfl rfl (nc_lit (j := 4) rfl (by decide) (by decide)) rfl dX5_init_90 (fun H locs hw => ?_)
  refine lv_iinc (v := 5) (lv' := [(1, .int 5), (0, .ref (K0.1 + 18))]) hx hb dX5_init_91 hl (k := 0) rfl (by decide) (by decide) rfl (fun ls hl => ?_)
  refine lv_goto (tgt := 72) hx hb dX5_init_94 (by decide) ?_
  refine lv_iload_n hx hb dX5_init_72 rfl (lv_at hl 0 rfl) ?_
  refine lv_bipush (v := 6) hx hb dX5_init_73 (by decide) ?_
  refine lv_icmp_ge (tgt := 97) hx hb dX5_init_75 (by decide) (fun c => absurd c (by decide)) (fun c => ?_)
  refine lv_aload_n hx hb dX5_init_78 rfl (lv_at hl 1 rfl) ?_
  refine gr_X5_19 cx hw (nt_is hB (o := 18) (by decide) (by decide +kernel)) (nt_mr (o := 18) (k := 1) (v := 20) (by decide +kernel)) (nt_is hB (o := 20) (kn := (11, 6)) (by decide) (by decide +kernel)) dX5_init_79 ?_
  refine lv_iload_n hx hb dX5_init_82 rfl (lv_at hl 0 rfl) ?_
  refine nt_new (ci := 4) cx hw (by decide +kernel) rfl cl_X5_17 wn_X4 wi_X4 ⟨Nat.le_of_ble_eq_true rfl, Nat.le_of_ble_eq_true rfl⟩ dX5_init_83 (fun H hw => ?_)
  refine lv_dup hx hb dX5_init_86 rfl ?_
  refine nc_runN cx hw ln_X5_35 (cn_X4_init_34 l hB (nc_up mi (K0.1 + 18) 4 4)) rfl hl.1 rfl (Nat.le_of_ble_eq_true rfl) ⟨rfl, rfl, Nat.le_of_ble_eq_true rfl, Nat.le_of_ble_eq_true rfl⟩ ⟨Nat.le_of_ble_eq_true rfl, Nat.le_of_ble_eq_true rfl⟩ dX5_init_87 (fun H locs hw => ?_)
  refine nt_aast (n := 6) (v := 34) (o := 20) (ki := 11) (t0 := 2) (ci := 4) (q := 5) cx hB hw (by decide +kernel) (by decide) (by decide) (by decide +kernel) (by decide +kernel) (by decide) rfl rfl (nc_lit (j := 5) rfl (by decide) (by decide)) rfl dX5_init_90 (fun H locs hw => ?_)
  refine lv_iinc (v := 6) (lv' := [(1, .int 6), (0, .ref (K0.1 + 18))]) hx hb dX5_init_91 hl (k := 0) rfl (by decide) (by decide) rfl (fun ls hl => ?_)
  refine lv_goto (tgt := 72) hx hb dX5_init_94 (by decide) ?_
  refine lv_iload_n hx hb dX5_init_72 rfl (lv_at hl 0 rfl) ?_
  refine lv_bipush (v := 6) hx hb dX5_init_73 (by decide) ?_
  refine lv_icmp_ge (tgt := 97) hx hb dX5_init_75 (by decide) (fun c => ?_) (fun c => absurd (by decide) c)
  refine lv_aload_n hx hb dX5_init_97 rfl (lv_at hl 1 rfl) ?_
  have hLT : nc_LTown G (nc_kt nc_SN nc_RN K0 35 33) (K0.1 + 18) := ⟨(nt_is hB (o := 18) (by decide) (by decide +kernel)), (nt_mr (o := 18) (k := 0) (v := 19) (by decide +kernel)), (nt_is hB (o := 19) (by decide) (by decide +kernel)), (nc_all6 ⟨(nt_mr (o := 19) (k := 0) (v := 23) (by decide +kernel)), (nt_is hB (o := 23) (by decide) (by decide +kernel))⟩ ⟨(nt_mr (o := 19) (k := 1) (v := 24) (by decide +kernel)), (nt_is hB (o := 24) (by decide) (by decide +kernel))⟩ ⟨(nt_mr (o := 19) (k := 2) (v := 25) (by decide +kernel)), (nt_is hB (o := 25) (by decide) (by decide +kernel))⟩ ⟨(nt_mr (o := 19) (k := 3) (v := 26) (by decide +kernel)), (nt_is hB (o := 26) (by decide) (by decide +kernel))⟩ ⟨(nt_mr (o := 19) (k := 4) (v := 27) (by decide +kernel)), (nt_is hB (o := 27) (by decide) (by decide +kernel))⟩ ⟨(nt_mr (o := 19) (k := 5) (v := 28) (by decide +kernel)), (nt_is hB (o := 28) (by decide) (by decide +kernel))⟩), (nt_mr (o := 18) (k := 1) (v := 20) (by decide +kernel)), (nt_is hB (o := 20) (by decide) (by decide +kernel)), (nc_all6 ⟨(nt_mr (o := 20) (k := 0) (v := 29) (by decide +kernel)), (nt_is hB (o := 29) (by decide) (by decide +kernel))⟩ ⟨(nt_mr (o := 20) (k := 1) (v := 30) (by decide +kernel)), (nt_is hB (o := 30) (by decide) (by decide +kernel))⟩ ⟨(nt_mr (o := 20) (k := 2) (v := 31) (by decide +kernel)), (nt_is hB (o := 31) (by decide) (by decide +kernel))⟩ ⟨(nt_mr (o := 20) (k := 3) (v := 32) (by decide +kernel)), (nt_is hB (o := 32) (by decide) (by decide +kernel))⟩ ⟨(nt_mr (o := 20) (k := 4) (v := 33) (by decide +kernel)), (nt_is hB (o := 33) (by decide) (by decide +kernel))⟩ ⟨(nt_mr (o := 20) (k := 5) (v := 34) (by decide +kernel)), (nt_is hB (o := 34) (by decide) (by decide +kernel))⟩), (nt_mr (o := 18) (k := 2) (v := 21) (by decide +kernel)), (nt_is hB (o := 21) (by decide) (by decide +kernel)), (nt_mr (o := 18) (k := 3) (v := 22) (by decide +kernel)), (nt_is hB (o := 22) (by decide) (by decide +kernel))⟩
  refine nc_runV cx hw lk_X5_36 (c_X5_measure l hLT _ _ hf) (ci := 5) rfl (nt_is hB (o := 18) (by decide) (by decide +kernel)) rfl hl.1 rfl (Nat.le_of_ble_eq_true rfl) ⟨rfl, rfl, Nat.le_of_ble_eq_true rfl, Nat.le_of_ble_eq_true rfl⟩ ⟨Nat.le_of_ble_eq_true rfl, Nat.le_of_ble_eq_true rfl⟩ dX5_init_98 (fun H locs hw => ?_)
  exact nc_vretK cx hw hr hlocks ⟨rfl, rfl⟩ ⟨Nat.le_of_ble_eq_true rfl, Nat.le_of_ble_eq_true rfl⟩ dX5_init_101
abbrev rm_cn_X3_init_40 : Room := { frames := 1, cells := 0, slots := 0, locals := 40 }
set_option maxRecDepth 100000 in
set_option maxHeartbeats 4000000 in
theorem cn_X3_init_40 (l : Launch) {G : nc_G} {K0 : nc_K} (hB : G.2.2.1 ≤ K0.1) (mi : nc_Mem)   : nc_M l yX3_init cX3_init 1 none rm_cn_X3_init_40 0 0 G (nc_kt nc_SN nc_RN K0 41 38) (nc_kt nc_SN nc_RN K0 41 38) [.ref (K0.1 + 40)] mi mi none := by
  refine nc_meet_n (by decide) (Nat.le_of_ble_eq_true rfl) ?_
  intro p e s m args below meth c ls H cx hin hr hlocks hw hl
  have cx : nc_C p s m args c cX3_init 1 RX3 G := cx
  have hin : meth.name = "<init>" := hin
  have hl : lv_has ls 1 [(0, .ref (K0.1 + 40))] := hl
  have hx := cx.1
  have hb := cx.2.1
  refine lv_aload_n hx hb dX3_init_0 rfl (lv_at hl 0 rfl) ?_
  refine nc_oi cx hl.1 oi_X3 wo_i wo_c ⟨Nat.le_of_ble_eq_true rfl, Nat.le_of_ble_eq_true rfl⟩ dX3_init_1 ?_
  exact nc_vretK cx hw hr hlocks ⟨rfl, rfl⟩ ⟨Nat.le_of_ble_eq_true rfl, Nat.le_of_ble_eq_true rfl⟩ dX3_init_4
abbrev rm_cn_X3_init_41 : Room := { frames := 1, cells := 0, slots := 0, locals := 40 }
set_option maxRecDepth 100000 in
set_option maxHeartbeats 4000000 in
theorem cn_X3_init_41 (l : Launch) {G : nc_G} {K0 : nc_K} (hB : G.2.2.1 ≤ K0.1) (mi : nc_Mem)   : nc_M l yX3_init cX3_init 1 none rm_cn_X3_init_41 0 0 G (nc_kt nc_SN nc_RN K0 42 39) (nc_kt nc_SN nc_RN K0 42 39) [.ref (K0.1 + 41)] mi mi none := by
  refine nc_meet_n (by decide) (Nat.le_of_ble_eq_true rfl) ?_
  intro p e s m args below meth c ls H cx hin hr hlocks hw hl
  have cx : nc_C p s m args c cX3_init 1 RX3 G := cx
  have hin : meth.name = "<init>" := hin
  have hl : lv_has ls 1 [(0, .ref (K0.1 + 41))] := hl
  have hx := cx.1
  have hb := cx.2.1
  refine lv_aload_n hx hb dX3_init_0 rfl (lv_at hl 0 rfl) ?_
  refine nc_oi cx hl.1 oi_X3 wo_i wo_c ⟨Nat.le_of_ble_eq_true rfl, Nat.le_of_ble_eq_true rfl⟩ dX3_init_1 ?_
  exact nc_vretK cx hw hr hlocks ⟨rfl, rfl⟩ ⟨Nat.le_of_ble_eq_true rfl, Nat.le_of_ble_eq_true rfl⟩ dX3_init_4
abbrev rm_cn_X3_init_42 : Room := { frames := 1, cells := 0, slots := 0, locals := 40 }
set_option maxRecDepth 100000 in
set_option maxHeartbeats 4000000 in
theorem cn_X3_init_42 (l : Launch) {G : nc_G} {K0 : nc_K} (hB : G.2.2.1 ≤ K0.1) (mi : nc_Mem)   : nc_M l yX3_init cX3_init 1 none rm_cn_X3_init_42 0 0 G (nc_kt nc_SN nc_RN K0 43 40) (nc_kt nc_SN nc_RN K0 43 40) [.ref (K0.1 + 42)] mi mi none := by
  refine nc_meet_n (by decide) (Nat.le_of_ble_eq_true rfl) ?_
  intro p e s m args below meth c ls H cx hin hr hlocks hw hl
  have cx : nc_C p s m args c cX3_init 1 RX3 G := cx
  have hin : meth.name = "<init>" := hin
  have hl : lv_has ls 1 [(0, .ref (K0.1 + 42))] := hl
  have hx := cx.1
  have hb := cx.2.1
  refine lv_aload_n hx hb dX3_init_0 rfl (lv_at hl 0 rfl) ?_
  refine nc_oi cx hl.1 oi_X3 wo_i wo_c ⟨Nat.le_of_ble_eq_true rfl, Nat.le_of_ble_eq_true rfl⟩ dX3_init_1 ?_
  exact nc_vretK cx hw hr hlocks ⟨rfl, rfl⟩ ⟨Nat.le_of_ble_eq_true rfl, Nat.le_of_ble_eq_true rfl⟩ dX3_init_4
abbrev rm_cn_X3_init_43 : Room := { frames := 1, cells := 0, slots := 0, locals := 40 }
set_option maxRecDepth 100000 in
set_option maxHeartbeats 4000000 in
theorem cn_X3_init_43 (l : Launch) {G : nc_G} {K0 : nc_K} (hB : G.2.2.1 ≤ K0.1) (mi : nc_Mem)   : nc_M l yX3_init cX3_init 1 none rm_cn_X3_init_43 0 0 G (nc_kt nc_SN nc_RN K0 44 41) (nc_kt nc_SN nc_RN K0 44 41) [.ref (K0.1 + 43)] mi mi none := by
  refine nc_meet_n (by decide) (Nat.le_of_ble_eq_true rfl) ?_
  intro p e s m args below meth c ls H cx hin hr hlocks hw hl
  have cx : nc_C p s m args c cX3_init 1 RX3 G := cx
  have hin : meth.name = "<init>" := hin
  have hl : lv_has ls 1 [(0, .ref (K0.1 + 43))] := hl
  have hx := cx.1
  have hb := cx.2.1
  refine lv_aload_n hx hb dX3_init_0 rfl (lv_at hl 0 rfl) ?_
  refine nc_oi cx hl.1 oi_X3 wo_i wo_c ⟨Nat.le_of_ble_eq_true rfl, Nat.le_of_ble_eq_true rfl⟩ dX3_init_1 ?_
  exact nc_vretK cx hw hr hlocks ⟨rfl, rfl⟩ ⟨Nat.le_of_ble_eq_true rfl, Nat.le_of_ble_eq_true rfl⟩ dX3_init_4
abbrev rm_cn_X3_init_44 : Room := { frames := 1, cells := 0, slots := 0, locals := 40 }
set_option maxRecDepth 100000 in
set_option maxHeartbeats 4000000 in
theorem cn_X3_init_44 (l : Launch) {G : nc_G} {K0 : nc_K} (hB : G.2.2.1 ≤ K0.1) (mi : nc_Mem)   : nc_M l yX3_init cX3_init 1 none rm_cn_X3_init_44 0 0 G (nc_kt nc_SN nc_RN K0 45 42) (nc_kt nc_SN nc_RN K0 45 42) [.ref (K0.1 + 44)] mi mi none := by
  refine nc_meet_n (by decide) (Nat.le_of_ble_eq_true rfl) ?_
  intro p e s m args below meth c ls H cx hin hr hlocks hw hl
  have cx : nc_C p s m args c cX3_init 1 RX3 G := cx
  have hin : meth.name = "<init>" := hin
  have hl : lv_has ls 1 [(0, .ref (K0.1 + 44))] := hl
  have hx := cx.1
  have hb := cx.2.1
  refine lv_aload_n hx hb dX3_init_0 rfl (lv_at hl 0 rfl) ?_
  refine nc_oi cx hl.1 oi_X3 wo_i wo_c ⟨Nat.le_of_ble_eq_true rfl, Nat.le_of_ble_eq_true rfl⟩ dX3_init_1 ?_
  exact nc_vretK cx hw hr hlocks ⟨rfl, rfl⟩ ⟨Nat.le_of_ble_eq_true rfl, Nat.le_of_ble_eq_true rfl⟩ dX3_init_4
abbrev rm_cn_X3_init_45 : Room := { frames := 1, cells := 0, slots := 0, locals := 40 }
set_option maxRecDepth 100000 in
set_option maxHeartbeats 4000000 in
theorem cn_X3_init_45 (l : Launch) {G : nc_G} {K0 : nc_K} (hB : G.2.2.1 ≤ K0.1) (mi : nc_Mem)   : nc_M l yX3_init cX3_init 1 none rm_cn_X3_init_45 0 0 G (nc_kt nc_SN nc_RN K0 46 43) (nc_kt nc_SN nc_RN K0 46 43) [.ref (K0.1 + 45)] mi mi none := by
  refine nc_meet_n (by decide) (Nat.le_of_ble_eq_true rfl) ?_
  intro p e s m args below meth c ls H cx hin hr hlocks hw hl
  have cx : nc_C p s m args c cX3_init 1 RX3 G := cx
  have hin : meth.name = "<init>" := hin
  have hl : lv_has ls 1 [(0, .ref (K0.1 + 45))] := hl
  have hx := cx.1
  have hb := cx.2.1
  refine lv_aload_n hx hb dX3_init_0 rfl (lv_at hl 0 rfl) ?_
  refine nc_oi cx hl.1 oi_X3 wo_i wo_c ⟨Nat.le_of_ble_eq_true rfl, Nat.le_of_ble_eq_true rfl⟩ dX3_init_1 ?_
  exact nc_vretK cx hw hr hlocks ⟨rfl, rfl⟩ ⟨Nat.le_of_ble_eq_true rfl, Nat.le_of_ble_eq_true rfl⟩ dX3_init_4
abbrev rm_cn_X4_init_46 : Room := { frames := 1, cells := 0, slots := 0, locals := 40 }
set_option maxRecDepth 100000 in
set_option maxHeartbeats 4000000 in
theorem cn_X4_init_46 (l : Launch) {G : nc_G} {K0 : nc_K} (hB : G.2.2.1 ≤ K0.1) (mi : nc_Mem)   : nc_M l yX4_init cX4_init 1 none rm_cn_X4_init_46 0 0 G (nc_kt nc_SN nc_RN K0 47 44) (nc_kt nc_SN nc_RN K0 47 44) [.ref (K0.1 + 46)] mi mi none := by
  refine nc_meet_n (by decide) (Nat.le_of_ble_eq_true rfl) ?_
  intro p e s m args below meth c ls H cx hin hr hlocks hw hl
  have cx : nc_C p s m args c cX4_init 1 RX4 G := cx
  have hin : meth.name = "<init>" := hin
  have hl : lv_has ls 1 [(0, .ref (K0.1 + 46))] := hl
  have hx := cx.1
  have hb := cx.2.1
  refine lv_aload_n hx hb dX4_init_0 rfl (lv_at hl 0 rfl) ?_
  refine nc_oi cx hl.1 oi_X4 wo_i wo_c ⟨Nat.le_of_ble_eq_true rfl, Nat.le_of_ble_eq_true rfl⟩ dX4_init_1 ?_
  exact nc_vretK cx hw hr hlocks ⟨rfl, rfl⟩ ⟨Nat.le_of_ble_eq_true rfl, Nat.le_of_ble_eq_true rfl⟩ dX4_init_4
abbrev rm_cn_X4_init_47 : Room := { frames := 1, cells := 0, slots := 0, locals := 40 }
set_option maxRecDepth 100000 in
set_option maxHeartbeats 4000000 in
theorem cn_X4_init_47 (l : Launch) {G : nc_G} {K0 : nc_K} (hB : G.2.2.1 ≤ K0.1) (mi : nc_Mem)   : nc_M l yX4_init cX4_init 1 none rm_cn_X4_init_47 0 0 G (nc_kt nc_SN nc_RN K0 48 45) (nc_kt nc_SN nc_RN K0 48 45) [.ref (K0.1 + 47)] mi mi none := by
  refine nc_meet_n (by decide) (Nat.le_of_ble_eq_true rfl) ?_
  intro p e s m args below meth c ls H cx hin hr hlocks hw hl
  have cx : nc_C p s m args c cX4_init 1 RX4 G := cx
  have hin : meth.name = "<init>" := hin
  have hl : lv_has ls 1 [(0, .ref (K0.1 + 47))] := hl
  have hx := cx.1
  have hb := cx.2.1
  refine lv_aload_n hx hb dX4_init_0 rfl (lv_at hl 0 rfl) ?_
  refine nc_oi cx hl.1 oi_X4 wo_i wo_c ⟨Nat.le_of_ble_eq_true rfl, Nat.le_of_ble_eq_true rfl⟩ dX4_init_1 ?_
  exact nc_vretK cx hw hr hlocks ⟨rfl, rfl⟩ ⟨Nat.le_of_ble_eq_true rfl, Nat.le_of_ble_eq_true rfl⟩ dX4_init_4
abbrev rm_cn_X4_init_48 : Room := { frames := 1, cells := 0, slots := 0, locals := 40 }
set_option maxRecDepth 100000 in
set_option maxHeartbeats 4000000 in
theorem cn_X4_init_48 (l : Launch) {G : nc_G} {K0 : nc_K} (hB : G.2.2.1 ≤ K0.1) (mi : nc_Mem)   : nc_M l yX4_init cX4_init 1 none rm_cn_X4_init_48 0 0 G (nc_kt nc_SN nc_RN K0 49 46) (nc_kt nc_SN nc_RN K0 49 46) [.ref (K0.1 + 48)] mi mi none := by
  refine nc_meet_n (by decide) (Nat.le_of_ble_eq_true rfl) ?_
  intro p e s m args below meth c ls H cx hin hr hlocks hw hl
  have cx : nc_C p s m args c cX4_init 1 RX4 G := cx
  have hin : meth.name = "<init>" := hin
  have hl : lv_has ls 1 [(0, .ref (K0.1 + 48))] := hl
  have hx := cx.1
  have hb := cx.2.1
  refine lv_aload_n hx hb dX4_init_0 rfl (lv_at hl 0 rfl) ?_
  refine nc_oi cx hl.1 oi_X4 wo_i wo_c ⟨Nat.le_of_ble_eq_true rfl, Nat.le_of_ble_eq_true rfl⟩ dX4_init_1 ?_
  exact nc_vretK cx hw hr hlocks ⟨rfl, rfl⟩ ⟨Nat.le_of_ble_eq_true rfl, Nat.le_of_ble_eq_true rfl⟩ dX4_init_4
abbrev rm_cn_X4_init_49 : Room := { frames := 1, cells := 0, slots := 0, locals := 40 }
set_option maxRecDepth 100000 in
set_option maxHeartbeats 4000000 in
theorem cn_X4_init_49 (l : Launch) {G : nc_G} {K0 : nc_K} (hB : G.2.2.1 ≤ K0.1) (mi : nc_Mem)   : nc_M l yX4_init cX4_init 1 none rm_cn_X4_init_49 0 0 G (nc_kt nc_SN nc_RN K0 50 47) (nc_kt nc_SN nc_RN K0 50 47) [.ref (K0.1 + 49)] mi mi none := by
  refine nc_meet_n (by decide) (Nat.le_of_ble_eq_true rfl) ?_
  intro p e s m args below meth c ls H cx hin hr hlocks hw hl
  have cx : nc_C p s m args c cX4_init 1 RX4 G := cx
  have hin : meth.name = "<init>" := hin
  have hl : lv_has ls 1 [(0, .ref (K0.1 + 49))] := hl
  have hx := cx.1
  have hb := cx.2.1
  refine lv_aload_n hx hb dX4_init_0 rfl (lv_at hl 0 rfl) ?_
  refine nc_oi cx hl.1 oi_X4 wo_i wo_c ⟨Nat.le_of_ble_eq_true rfl, Nat.le_of_ble_eq_true rfl⟩ dX4_init_1 ?_
  exact nc_vretK cx hw hr hlocks ⟨rfl, rfl⟩ ⟨Nat.le_of_ble_eq_true rfl, Nat.le_of_ble_eq_true rfl⟩ dX4_init_4
abbrev rm_cn_X4_init_50 : Room := { frames := 1, cells := 0, slots := 0, locals := 40 }
set_option maxRecDepth 100000 in
set_option maxHeartbeats 4000000 in
theorem cn_X4_init_50 (l : Launch) {G : nc_G} {K0 : nc_K} (hB : G.2.2.1 ≤ K0.1) (mi : nc_Mem)   : nc_M l yX4_init cX4_init 1 none rm_cn_X4_init_50 0 0 G (nc_kt nc_SN nc_RN K0 51 48) (nc_kt nc_SN nc_RN K0 51 48) [.ref (K0.1 + 50)] mi mi none := by
  refine nc_meet_n (by decide) (Nat.le_of_ble_eq_true rfl) ?_
  intro p e s m args below meth c ls H cx hin hr hlocks hw hl
  have cx : nc_C p s m args c cX4_init 1 RX4 G := cx
  have hin : meth.name = "<init>" := hin
  have hl : lv_has ls 1 [(0, .ref (K0.1 + 50))] := hl
  have hx := cx.1
  have hb := cx.2.1
  refine lv_aload_n hx hb dX4_init_0 rfl (lv_at hl 0 rfl) ?_
  refine nc_oi cx hl.1 oi_X4 wo_i wo_c ⟨Nat.le_of_ble_eq_true rfl, Nat.le_of_ble_eq_true rfl⟩ dX4_init_1 ?_
  exact nc_vretK cx hw hr hlocks ⟨rfl, rfl⟩ ⟨Nat.le_of_ble_eq_true rfl, Nat.le_of_ble_eq_true rfl⟩ dX4_init_4
abbrev rm_cn_X4_init_51 : Room := { frames := 1, cells := 0, slots := 0, locals := 40 }
set_option maxRecDepth 100000 in
set_option maxHeartbeats 4000000 in
theorem cn_X4_init_51 (l : Launch) {G : nc_G} {K0 : nc_K} (hB : G.2.2.1 ≤ K0.1) (mi : nc_Mem)   : nc_M l yX4_init cX4_init 1 none rm_cn_X4_init_51 0 0 G (nc_kt nc_SN nc_RN K0 52 49) (nc_kt nc_SN nc_RN K0 52 49) [.ref (K0.1 + 51)] mi mi none := by
  refine nc_meet_n (by decide) (Nat.le_of_ble_eq_true rfl) ?_
  intro p e s m args below meth c ls H cx hin hr hlocks hw hl
  have cx : nc_C p s m args c cX4_init 1 RX4 G := cx
  have hin : meth.name = "<init>" := hin
  have hl : lv_has ls 1 [(0, .ref (K0.1 + 51))] := hl
  have hx := cx.1
  have hb := cx.2.1
  refine lv_aload_n hx hb dX4_init_0 rfl (lv_at hl 0 rfl) ?_
  refine nc_oi cx hl.1 oi_X4 wo_i wo_c ⟨Nat.le_of_ble_eq_true rfl, Nat.le_of_ble_eq_true rfl⟩ dX4_init_1 ?_
  exact nc_vretK cx hw hr hlocks ⟨rfl, rfl⟩ ⟨Nat.le_of_ble_eq_true rfl, Nat.le_of_ble_eq_true rfl⟩ dX4_init_4
abbrev rm_cn_X5_init_35 : Room := { frames := 6, cells := 16, slots := 212, locals := 200 }
set_option maxRecDepth 100000 in
set_option maxHeartbeats 4000000 in
theorem cn_X5_init_35 (l : Launch) {G : nc_G} {K0 : nc_K} (hB : G.2.2.1 ≤ K0.1) (mi : nc_Mem) (mi' : nc_Mem) (hf : f_X5_measure (nc_up mi (K0.1 + 35) 4 4) (K0.1 + 35) = some mi') : nc_M l yX5_init cX5_init 2 none rm_cn_X5_init_35 16 212 G (nc_kt nc_SN nc_RN K0 36 34) (nc_kt nc_SN nc_RN K0 52 50) [.ref (K0.1 + 35)] mi mi' none := by
  refine nc_meet_n (by decide) (Nat.le_of_ble_eq_true rfl) ?_
  intro p e s m args below meth c ls H cx hin hr hlocks hw hl
  have cx : nc_C p s m args c cX5_init 2 RX5 G := cx
  have hin : meth.name = "<init>" := hin
  have hl : lv_has ls 2 [(0, .ref (K0.1 + 35))] := hl
  have hx := cx.1
  have hb := cx.2.1
  refine lv_aload_n hx hb dX5_init_0 rfl (lv_at hl 0 rfl) ?_
  refine nc_oi cx hl.1 oi_X5 wo_i wo_c ⟨Nat.le_of_ble_eq_true rfl, Nat.le_of_ble_eq_true rfl⟩ dX5_init_1 ?_
  refine lv_aload_n hx hb dX5_init_4 rfl (lv_at hl 0 rfl) ?_
  refine lv_bipush (v := 6) hx hb dX5_init_5 (by decide) ?_
  refine nt_ref (N := 6) (ki := 10) (t0 := 1) cx hw (by decide +kernel) (by decide) cl_X5_9 (by decide) rfl (by decide) (by decide) (Nat.le_of_ble_eq_true rfl) ⟨Nat.le_of_ble_eq_true rfl, Nat.le_of_ble_eq_true rfl⟩ dX5_init_7 (fun H hw => ?_)
  refine nt_putF (ci := 5) (k := 0) (ty := .array (.object "NobodyCarries$Person")) cx hB hw (by decide +kernel) (by decide) (by decide +kernel) rfl (by decide) rfl rfl rfl hin (by decide +kernel) rfl rfl fl_X5_11 dX5_init_10 (fun H locs hw => ?_)
  refine lv_aload_n hx hb dX5_init_13 rfl (lv_at hl 0 rfl) ?_
  refine lv_bipush (v := 6) hx hb dX5_init_14 (by decide) ?_
  refine nt_ref (N := 6) (ki := 11) (t0 := 2) cx hw (by decide +kernel) (by decide) cl_X5_17 (by decide) rfl (by decide) (by decide) (Nat.le_of_ble_eq_true rfl) ⟨Nat.le_of_ble_eq_true rfl, Nat.le_of_ble_eq_true rfl⟩ dX5_init_16 (fun H hw => ?_)
  refine nt_putF (ci := 5) (k := 1) (ty := .array (.object "NobodyCarries$Thing")) cx hB hw (by decide +kernel) (by decide) (by decide +kernel) rfl (by decide) rfl rfl rfl hin (by decide +kernel) rfl rfl fl_X5_19 dX5_init_19 (fun H locs hw => ?_)
  refine lv_aload_n hx hb dX5_init_22 rfl (lv_at hl 0 rfl) ?_
  refine lv_bipush (v := 49) hx hb dX5_init_23 (by decide) ?_
  refine nt_int (N := 49) cx hw (by decide +kernel) wa_int (by decide) (by decide) (Nat.le_of_ble_eq_true rfl) ⟨Nat.le_of_ble_eq_true rfl, Nat.le_of_ble_eq_true rfl⟩ dX5_init_25 (fun H hw => ?_)
  refine nt_putF (ci := 5) (k := 2) (ty := .array .int) cx hB hw (by decide +kernel) (by decide) (by decide +kernel) rfl (by decide) rfl rfl rfl hin (by decide +kernel) rfl rfl fl_X5_23 dX5_init_27 (fun H locs hw => ?_)
  refine lv_aload_n hx hb dX5_init_30 rfl (lv_at hl 0 rfl) ?_
  refine lv_bipush (v := 49) hx hb dX5_init_31 (by decide) ?_
  refine nt_int (N := 49) cx hw (by decide +kernel) wa_int (by decide) (by decide) (Nat.le_of_ble_eq_true rfl) ⟨Nat.le_of_ble_eq_true rfl, Nat.le_of_ble_eq_true rfl⟩ dX5_init_33 (fun H hw => ?_)
  refine nt_putF (ci := 5) (k := 3) (ty := .array .int) cx hB hw (by decide +kernel) (by decide) (by decide +kernel) rfl (by decide) rfl rfl rfl hin (by decide +kernel) rfl rfl fl_X5_27 dX5_init_35 (fun H locs hw => ?_)
  refine lv_aload_n hx hb dX5_init_38 rfl (lv_at hl 0 rfl) ?_
  refine lv_iconst (v := 4) hx hb dX5_init_39 (by decide) ?_
  refine pi_X5_30 cx hw (nt_is hB (o := 35) (by decide) (by decide +kernel)) dX5_init_40 (fun mi1 H locs emi1 hw => ?_)
  subst emi1
  refine lv_iconst (v := 0) hx hb dX5_init_43 (by decide) ?_
  refine lv_istore_n (lv' := [(1, .int 0), (0, .ref (K0.1 + 35))]) hx hb dX5_init_44 rfl hl (by decide) rfl (fun ls hl => ?_)
  refine lv_iload_n hx hb dX5_init_45 rfl (lv_at hl 0 rfl) ?_
  refine lv_bipush (v := 6) hx hb dX5_init_46 (by decide) ?_
  refine lv_icmp_ge (tgt := 70) hx hb dX5_init_48 (by decide) (fun c => absurd c (by decide)) (fun c => ?_)
  refine lv_aload_n hx hb dX5_init_51 rfl (lv_at hl 1 rfl) ?_
  refine gr_X5_11 cx hw (nt_is hB (o := 35) (by decide) (by decide +kernel)) (nt_mr (o := 35) (k := 0) (v := 36) (by decide +kernel)) (nt_is hB (o := 36) (kn := (10, 6)) (by decide) (by decide +kernel)) dX5_init_52 ?_
  refine lv_iload_n hx hb dX5_init_55 rfl (lv_at hl 0 rfl) ?_
  refine nt_new (ci := 3) cx hw (by decide +kernel) rfl cl_X5_9 wn_X3 wi_X3 ⟨Nat.le_of_ble_eq_true rfl, Nat.le_of_ble_eq_true rfl⟩ dX5_init_56 (fun H hw => ?_)
  refine lv_dup hx hb dX5_init_59 rfl ?_
  refine nc_runN cx hw ln_X5_34 (cn_X3_init_40 l hB (nc_up mi (K0.1 + 35) 4 4)) rfl hl.1 rfl (Nat.le_of_ble_eq_true rfl) ⟨rfl, rfl, Nat.le_of_ble_eq_true rfl, Nat.le_of_ble_eq_true rfl⟩ ⟨Nat.le_of_ble_eq_true rfl, Nat.le_of_ble_eq_true rfl⟩ dX5_init_60 (fun H locs hw => ?_)
  refine nt_aast (n := 6) (v := 40) (o := 36) (ki := 10) (t0 := 1) (ci := 3) (q := 0) cx hB hw (by decide +kernel) (by decide) (by decide) (by decide +kernel) (by decide +kernel) (by decide) rfl rfl (nc_lit (j := 0) rfl (by decide) (by decide)) rfl dX5_init_63 (fun H locs hw => ?_)
  refine lv_iinc (v := 1) (lv' := [(1, .int 1), (0, .ref (K0.1 + 35))]) hx hb dX5_init_64 hl (k := 0) rfl (by decide) (by decide) rfl (fun ls hl => ?_)
  refine lv_goto (tgt := 45) hx hb dX5_init_67 (by decide) ?_
  refine lv_iload_n hx hb dX5_init_45 rfl (lv_at hl 0 rfl) ?_
  refine lv_bipush (v := 6) hx hb dX5_init_46 (by decide) ?_
  refine lv_icmp_ge (tgt := 70) hx hb dX5_init_48 (by decide) (fun c => absurd c (by decide)) (fun c => ?_)
  refine lv_aload_n hx hb dX5_init_51 rfl (lv_at hl 1 rfl) ?_
  refine gr_X5_11 cx hw (nt_is hB (o := 35) (by decide) (by decide +kernel)) (nt_mr (o := 35) (k := 0) (v := 36) (by decide +kernel)) (nt_is hB (o := 36) (kn := (10, 6)) (by decide) (by decide +kernel)) dX5_init_52 ?_
  refine lv_iload_n hx hb dX5_init_55 rfl (lv_at hl 0 rfl) ?_
  refine nt_new (ci := 3) cx hw (by decide +kernel) rfl cl_X5_9 wn_X3 wi_X3 ⟨Nat.le_of_ble_eq_true rfl, Nat.le_of_ble_eq_true rfl⟩ dX5_init_56 (fun H hw => ?_)
  refine lv_dup hx hb dX5_init_59 rfl ?_
  refine nc_runN cx hw ln_X5_34 (cn_X3_init_41 l hB (nc_up mi (K0.1 + 35) 4 4)) rfl hl.1 rfl (Nat.le_of_ble_eq_true rfl) ⟨rfl, rfl, Nat.le_of_ble_eq_true rfl, Nat.le_of_ble_eq_true rfl⟩ ⟨Nat.le_of_ble_eq_true rfl, Nat.le_of_ble_eq_true rfl⟩ dX5_init_60 (fun H locs hw => ?_)
  refine nt_aast (n := 6) (v := 41) (o := 36) (ki := 10) (t0 := 1) (ci := 3) (q := 1) cx hB hw (by decide +kernel) (by decide) (by decide) (by decide +kernel) (by decide +kernel) (by decide) rfl rfl (nc_lit (j := 1) rfl (by decide) (by decide)) rfl dX5_init_63 (fun H locs hw => ?_)
  refine lv_iinc (v := 2) (lv' := [(1, .int 2), (0, .ref (K0.1 + 35))]) hx hb dX5_init_64 hl (k := 0) rfl (by decide) (by decide) rfl (fun ls hl => ?_)
  refine lv_goto (tgt := 45) hx hb dX5_init_67 (by decide) ?_
  refine lv_iload_n hx hb dX5_init_45 rfl (lv_at hl 0 rfl) ?_
  refine lv_bipush (v := 6) hx hb dX5_init_46 (by decide) ?_
  refine lv_icmp_ge (tgt := 70) hx hb dX5_init_48 (by decide) (fun c => absurd c (by decide)) (fun c => ?_)
  refine lv_aload_n hx hb dX5_init_51 rfl (lv_at hl 1 rfl) ?_
  refine gr_X5_11 cx hw (nt_is hB (o := 35) (by decide) (by decide +kernel)) (nt_mr (o := 35) (k := 0) (v := 36) (by decide +kernel)) (nt_is hB (o := 36) (kn := (10, 6)) (by decide) (by decide +kernel)) dX5_init_52 ?_
  refine lv_iload_n hx hb dX5_init_55 rfl (lv_at hl 0 rfl) ?_
  refine nt_new (ci := 3) cx hw (by decide +kernel) rfl cl_X5_9 wn_X3 wi_X3 ⟨Nat.le_of_ble_eq_true rfl, Nat.le_of_ble_eq_true rfl⟩ dX5_init_56 (fun H hw => ?_)
  refine lv_dup hx hb dX5_init_59 rfl ?_
  refine nc_runN cx hw ln_X5_34 (cn_X3_init_42 l hB (nc_up mi (K0.1 + 35) 4 4)) rfl hl.1 rfl (Nat.le_of_ble_eq_true rfl) ⟨rfl, rfl, Nat.le_of_ble_eq_true rfl, Nat.le_of_ble_eq_true rfl⟩ ⟨Nat.le_of_ble_eq_true rfl, Nat.le_of_ble_eq_true rfl⟩ dX5_init_60 (fun H locs hw => ?_)
  refine nt_aast (n := 6) (v := 42) (o := 36) (ki := 10) (t0 := 1) (ci := 3) (q := 2) cx hB hw (by decide +kernel) (by decide) (by decide) (by decide +kernel) (by decide +kernel) (by decide) rfl rfl (nc_lit (j := 2) rfl (by decide) (by decide)) rfl dX5_init_63 (fun H locs hw => ?_)
  refine lv_iinc (v := 3) (lv' := [(1, .int 3), (0, .ref (K0.1 + 35))]) hx hb dX5_init_64 hl (k := 0) rfl (by decide) (by decide) rfl (fun ls hl => ?_)
  refine lv_goto (tgt := 45) hx hb dX5_init_67 (by decide) ?_
  refine lv_iload_n hx hb dX5_init_45 rfl (lv_at hl 0 rfl) ?_
  refine lv_bipush (v := 6) hx hb dX5_init_46 (by decide) ?_
  refine lv_icmp_ge (tgt := 70) hx hb dX5_init_48 (by decide) (fun c => absurd c (by decide)) (fun c => ?_)
  refine lv_aload_n hx hb dX5_init_51 rfl (lv_at hl 1 rfl) ?_
  refine gr_X5_11 cx hw (nt_is hB (o := 35) (by decide) (by decide +kernel)) (nt_mr (o := 35) (k := 0) (v := 36) (by decide +kernel)) (nt_is hB (o := 36) (kn := (10, 6)) (by decide) (by decide +kernel)) dX5_init_52 ?_
  refine lv_iload_n hx hb dX5_init_55 rfl (lv_at hl 0 rfl) ?_
  refine nt_new (ci := 3) cx hw (by decide +kernel) rfl cl_X5_9 wn_X3 wi_X3 ⟨Nat.le_of_ble_eq_true rfl, Nat.le_of_ble_eq_true rfl⟩ dX5_init_56 (fun H hw => ?_)
  refine lv_dup hx hb dX5_init_59 rfl ?_
  refine nc_runN cx hw ln_X5_34 (cn_X3_init_43 l hB (nc_up mi (K0.1 + 35) 4 4)) rfl hl.1 rfl (Nat.le_of_ble_eq_true rfl) ⟨rfl, rfl, Nat.le_of_ble_eq_true rfl, Nat.le_of_ble_eq_true rfl⟩ ⟨Nat.le_of_ble_eq_true rfl, Nat.le_of_ble_eq_true rfl⟩ dX5_init_60 (fun H locs hw => ?_)
  refine nt_aast (n := 6) (v := 43) (o := 36) (ki := 10) (t0 := 1) (ci := 3) (q := 3) cx hB hw (by decide +kernel) (by decide) (by decide) (by decide +kernel) (by decide +kernel) (by decide) rfl rfl (nc_lit (j := 3) rfl (by decide) (by decide)) rfl dX5_init_63 (fun H locs hw => ?_)
  refine lv_iinc (v := 4) (lv' := [(1, .int 4), (0, .ref (K0.1 + 35))]) hx hb dX5_init_64 hl (k := 0) rfl (by decide) (by decide) rfl (fun ls hl => ?_)
  refine lv_goto (tgt := 45) hx hb dX5_init_67 (by decide) ?_
  refine lv_iload_n hx hb dX5_init_45 rfl (lv_at hl 0 rfl) ?_
  refine lv_bipush (v := 6) hx hb dX5_init_46 (by decide) ?_
  refine lv_icmp_ge (tgt := 70) hx hb dX5_init_48 (by decide) (fun c => absurd c (by decide)) (fun c => ?_)
  refine lv_aload_n hx hb dX5_init_51 rfl (lv_at hl 1 rfl) ?_
  refine gr_X5_11 cx hw (nt_is hB (o := 35) (by decide) (by decide +kernel)) (nt_mr (o := 35) (k := 0) (v := 36) (by decide +kernel)) (nt_is hB (o := 36) (kn := (10, 6)) (by decide) (by decide +kernel)) dX5_init_52 ?_
  refine lv_iload_n hx hb dX5_init_55 rfl (lv_at hl 0 rfl) ?_
  refine nt_new (ci := 3) cx hw (by decide +kernel) rfl cl_X5_9 wn_X3 wi_X3 ⟨Nat.le_of_ble_eq_true rfl, Nat.le_of_ble_eq_true rfl⟩ dX5_init_56 (fun H hw => ?_)
  refine lv_dup hx hb dX5_init_59 rfl ?_
  refine nc_runN cx hw ln_X5_34 (cn_X3_init_44 l hB (nc_up mi (K0.1 + 35) 4 4)) rfl hl.1 rfl (Nat.le_of_ble_eq_true rfl) ⟨rfl, rfl, Nat.le_of_ble_eq_true rfl, Nat.le_of_ble_eq_true rfl⟩ ⟨Nat.le_of_ble_eq_true rfl, Nat.le_of_ble_eq_true rfl⟩ dX5_init_60 (fun H locs hw => ?_)
  refine nt_aast (n := 6) (v := 44) (o := 36) (ki := 10) (t0 := 1) (ci := 3) (q := 4) cx hB hw (by decide +kernel) (by decide) (by decide) (by decide +kernel) (by decide +kernel) (by decide) rfl rfl (nc_lit (j := 4) rfl (by decide) (by decide)) rfl dX5_init_63 (fun H locs hw => ?_)
  refine lv_iinc (v := 5) (lv' := [(1, .int 5), (0, .ref (K0.1 + 35))]) hx hb dX5_init_64 hl (k := 0) rfl (by decide) (by decide) rfl (fun ls hl => ?_)
  refine lv_goto (tgt := 45) hx hb dX5_init_67 (by decide) ?_
  refine lv_iload_n hx hb dX5_init_45 rfl (lv_at hl 0 rfl) ?_
  refine lv_bipush (v := 6) hx hb dX5_init_46 (by decide) ?_
  refine lv_icmp_ge (tgt := 70) hx hb dX5_init_48 (by decide) (fun c => absurd c (by decide)) (fun c => ?_)
  refine lv_aload_n hx hb dX5_init_51 rfl (lv_at hl 1 rfl) ?_
  refine gr_X5_11 cx hw (nt_is hB (o := 35) (by decide) (by decide +kernel)) (nt_mr (o := 35) (k := 0) (v := 36) (by decide +kernel)) (nt_is hB (o := 36) (kn := (10, 6)) (by decide) (by decide +kernel)) dX5_init_52 ?_
  refine lv_iload_n hx hb dX5_init_55 rfl (lv_at hl 0 rfl) ?_
  refine nt_new (ci := 3) cx hw (by decide +kernel) rfl cl_X5_9 wn_X3 wi_X3 ⟨Nat.le_of_ble_eq_true rfl, Nat.le_of_ble_eq_true rfl⟩ dX5_init_56 (fun H hw => ?_)
  refine lv_dup hx hb dX5_init_59 rfl ?_
  refine nc_runN cx hw ln_X5_34 (cn_X3_init_45 l hB (nc_up mi (K0.1 + 35) 4 4)) rfl hl.1 rfl (Nat.le_of_ble_eq_true rfl) ⟨rfl, rfl, Nat.le_of_ble_eq_true rfl, Nat.le_of_ble_eq_true rfl⟩ ⟨Nat.le_of_ble_eq_true rfl, Nat.le_of_ble_eq_true rfl⟩ dX5_init_60 (fun H locs hw => ?_)
  refine nt_aast (n := 6) (v := 45) (o := 36) (ki := 10) (t0 := 1) (ci := 3) (q := 5) cx hB hw (by decide +kernel) (by decide) (by decide) (by decide +kernel) (by decide +kernel) (by decide) rfl rfl (nc_lit (j := 5) rfl (by decide) (by decide)) rfl dX5_init_63 (fun H locs hw => ?_)
  refine lv_iinc (v := 6) (lv' := [(1, .int 6), (0, .ref (K0.1 + 35))]) hx hb dX5_init_64 hl (k := 0) rfl (by decide) (by decide) rfl (fun ls hl => ?_)
  refine lv_goto (tgt := 45) hx hb dX5_init_67 (by decide) ?_
  refine lv_iload_n hx hb dX5_init_45 rfl (lv_at hl 0 rfl) ?_
  refine lv_bipush (v := 6) hx hb dX5_init_46 (by decide) ?_
  refine lv_icmp_ge (tgt := 70) hx hb dX5_init_48 (by decide) (fun c => ?_) (fun c => absurd (by decide) c)
  refine lv_iconst (v := 0) hx hb dX5_init_70 (by decide) ?_
  refine lv_istore_n (lv' := [(1, .int 0), (0, .ref (K0.1 + 35))]) hx hb dX5_init_71 rfl hl (by decide) rfl (fun ls hl => ?_)
  refine lv_iload_n hx hb dX5_init_72 rfl (lv_at hl 0 rfl) ?_
  refine lv_bipush (v := 6) hx hb dX5_init_73 (by decide) ?_
  refine lv_icmp_ge (tgt := 97) hx hb dX5_init_75 (by decide) (fun c => absurd c (by decide)) (fun c => ?_)
  refine lv_aload_n hx hb dX5_init_78 rfl (lv_at hl 1 rfl) ?_
  refine gr_X5_19 cx hw (nt_is hB (o := 35) (by decide) (by decide +kernel)) (nt_mr (o := 35) (k := 1) (v := 37) (by decide +kernel)) (nt_is hB (o := 37) (kn := (11, 6)) (by decide) (by decide +kernel)) dX5_init_79 ?_
  refine lv_iload_n hx hb dX5_init_82 rfl (lv_at hl 0 rfl) ?_
  refine nt_new (ci := 4) cx hw (by decide +kernel) rfl cl_X5_17 wn_X4 wi_X4 ⟨Nat.le_of_ble_eq_true rfl, Nat.le_of_ble_eq_true rfl⟩ dX5_init_83 (fun H hw => ?_)
  refine lv_dup hx hb dX5_init_86 rfl ?_
  refine nc_runN cx hw ln_X5_35 (cn_X4_init_46 l hB (nc_up mi (K0.1 + 35) 4 4)) rfl hl.1 rfl (Nat.le_of_ble_eq_true rfl) ⟨rfl, rfl, Nat.le_of_ble_eq_true rfl, Nat.le_of_ble_eq_true rfl⟩ ⟨Nat.le_of_ble_eq_true rfl, Nat.le_of_ble_eq_true rfl⟩ dX5_init_87 (fun H locs hw => ?_)
  refine nt_aast (n := 6) (v := 46) (o := 37) (ki := 11) (t0 := 2) (ci := 4) (q := 0) cx hB hw (by decide +kernel) (by decide) (by decide) (by decide +kernel) (by decide +kernel) (by decide) rfl rfl (nc_lit (j := 0) rfl (by decide) (by decide)) rfl dX5_init_90 (fun H locs hw => ?_)
  refine lv_iinc (v := 1) (lv' := [(1, .int 1), (0, .ref (K0.1 + 35))]) hx hb dX5_init_91 hl (k := 0) rfl (by decide) (by decide) rfl (fun ls hl => ?_)
  refine lv_goto (tgt := 72) hx hb dX5_init_94 (by decide) ?_
  refine lv_iload_n hx hb dX5_init_72 rfl (lv_at hl 0 rfl) ?_
  refine lv_bipush (v := 6) hx hb dX5_init_73 (by decide) ?_
  refine lv_icmp_ge (tgt := 97) hx hb dX5_init_75 (by decide) (fun c => absurd c (by decide)) (fun c => ?_)
  refine lv_aload_n hx hb dX5_init_78 rfl (lv_at hl 1 rfl) ?_
  refine gr_X5_19 cx hw (nt_is hB (o := 35) (by decide) (by decide +kernel)) (nt_mr (o := 35) (k := 1) (v := 37) (by decide +kernel)) (nt_is hB (o := 37) (kn := (11, 6)) (by decide) (by decide +kernel)) dX5_init_79 ?_
  refine lv_iload_n hx hb dX5_init_82 rfl (lv_at hl 0 rfl) ?_
  refine nt_new (ci := 4) cx hw (by decide +kernel) rfl cl_X5_17 wn_X4 wi_X4 ⟨Nat.le_of_ble_eq_true rfl, Nat.le_of_ble_eq_true rfl⟩ dX5_init_83 (fun H hw => ?_)
  refine lv_dup hx hb dX5_init_86 rfl ?_
  refine nc_runN cx hw ln_X5_35 (cn_X4_init_47 l hB (nc_up mi (K0.1 + 35) 4 4)) rfl hl.1 rfl (Nat.le_of_ble_eq_true rfl) ⟨rfl, rfl, Nat.le_of_ble_eq_true rfl, Nat.le_of_ble_eq_true rfl⟩ ⟨Nat.le_of_ble_eq_true rfl, Nat.le_of_ble_eq_true rfl⟩ dX5_init_87 (fun H locs hw => ?_)
  refine nt_aast (n := 6) (v := 47) (o := 37) (ki := 11) (t0 := 2) (ci := 4) (q := 1) cx hB hw (by decide +kernel) (by decide) (by decide) (by decide +kernel) (by decide +kernel) (by decide) rfl rfl (nc_lit (j := 1) rfl (by decide) (by decide)) rfl dX5_init_90 (fun H locs hw => ?_)
  refine lv_iinc (v := 2) (lv' := [(1, .int 2), (0, .ref (K0.1 + 35))]) hx hb dX5_init_91 hl (k := 0) rfl (by decide) (by decide) rfl (fun ls hl => ?_)
  refine lv_goto (tgt := 72) hx hb dX5_init_94 (by decide) ?_
  refine lv_iload_n hx hb dX5_init_72 rfl (lv_at hl 0 rfl) ?_
  refine lv_bipush (v := 6) hx hb dX5_init_73 (by decide) ?_
  refine lv_icmp_ge (tgt := 97) hx hb dX5_init_75 (by decide) (fun c => absurd c (by decide)) (fun c => ?_)
  refine lv_aload_n hx hb dX5_init_78 rfl (lv_at hl 1 rfl) ?_
  refine gr_X5_19 cx hw (nt_is hB (o := 35) (by decide) (by decide +kernel)) (nt_mr (o := 35) (k := 1) (v := 37) (by decide +kernel)) (nt_is hB (o := 37) (kn := (11, 6)) (by decide) (by decide +kernel)) dX5_init_79 ?_
  refine lv_iload_n hx hb dX5_init_82 rfl (lv_at hl 0 rfl) ?_
  refine nt_new (ci := 4) cx hw (by decide +kernel) rfl cl_X5_17 wn_X4 wi_X4 ⟨Nat.le_of_ble_eq_true rfl, Nat.le_of_ble_eq_true rfl⟩ dX5_init_83 (fun H hw => ?_)
  refine lv_dup hx hb dX5_init_86 rfl ?_
  refine nc_runN cx hw ln_X5_35 (cn_X4_init_48 l hB (nc_up mi (K0.1 + 35) 4 4)) rfl hl.1 rfl (Nat.le_of_ble_eq_true rfl) ⟨rfl, rfl, Nat.le_of_ble_eq_true rfl, Nat.le_of_ble_eq_true rfl⟩ ⟨Nat.le_of_ble_eq_true rfl, Nat.le_of_ble_eq_true rfl⟩ dX5_init_87 (fun H locs hw => ?_)
  refine nt_aast (n := 6) (v := 48) (o := 37) (ki := 11) (t0 := 2) (ci := 4) (q := 2) cx hB hw (by decide +kernel) (by decide) (by decide) (by decide +kernel) (by decide +kernel) (by decide) rfl rfl (nc_lit (j := 2) rfl (by decide) (by decide)) rfl dX5_init_90 (fun H locs hw => ?_)
  refine lv_iinc (v := 3) (lv' := [(1, .int 3), (0, .ref (K0.1 + 35))]) hx hb dX5_init_91 hl (k := 0) rfl (by decide) (by decide) rfl (fun ls hl => ?_)
  refine lv_goto (tgt := 72) hx hb dX5_init_94 (by decide) ?_
  refine lv_iload_n hx hb dX5_init_72 rfl (lv_at hl 0 rfl) ?_
  refine lv_bipush (v := 6) hx hb dX5_init_73 (by decide) ?_
  refine lv_icmp_ge (tgt := 97) hx hb dX5_init_75 (by decide) (fun c => absurd c (by decide)) (fun c => ?_)
  refine lv_aload_n hx hb dX5_init_78 rfl (lv_at hl 1 rfl) ?_
  refine gr_X5_19 cx hw (nt_is hB (o := 35) (by decide) (by decide +kernel)) (nt_mr (o := 35) (k := 1) (v := 37) (by decide +kernel)) (nt_is hB (o := 37) (kn := (11, 6)) (by decide) (by decide +kernel)) dX5_init_79 ?_
  refine lv_iload_n hx hb dX5_init_82 rfl (lv_at hl 0 rfl) ?_
  refine nt_new (ci := 4) cx hw (by decide +kernel) rfl cl_X5_17 wn_X4 wi_X4 ⟨Nat.le_of_ble_eq_true rfl, Nat.le_of_ble_eq_true rfl⟩ dX5_init_83 (fun H hw => ?_)
  refine lv_dup hx hb dX5_init_86 rfl ?_
  refine nc_runN cx hw ln_X5_35 (cn_X4_init_49 l hB (nc_up mi (K0.1 + 35) 4 4)) rfl hl.1 rfl (Nat.le_of_ble_eq_true rfl) ⟨rfl, rfl, Nat.le_of_ble_eq_true rfl, Nat.le_of_ble_eq_true rfl⟩ ⟨Nat.le_of_ble_eq_true rfl, Nat.le_of_ble_eq_true rfl⟩ dX5_init_87 (fun H locs hw => ?_)
  refine nt_aast (n := 6) (v := 49) (o := 37) (ki := 11) (t0 := 2) (ci := 4) (q := 3) cx hB hw (by decide +kernel) (by decide) (by decide) (by decide +kernel) (by decide +kernel) (by decide) rfl rfl (nc_lit (j := 3) rfl (by decide) (by decide)) rfl dX5_init_90 (fun H locs hw => ?_)
  refine lv_iinc (v := 4) (lv' := [(1, .int 4), (0, .ref (K0.1 + 35))]) hx hb dX5_init_91 hl (k := 0) rfl (by decide) (by decide) rfl (fun ls hl => ?_)
  refine lv_goto (tgt := 72) hx hb dX5_init_94 (by decide) ?_
  refine lv_iload_n hx hb dX5_init_72 rfl (lv_at hl 0 rfl) ?_
  refine lv_bipush (v := 6) hx hb dX5_init_73 (by decide) ?_
  refine lv_icmp_ge (tgt := 97) hx hb dX5_init_75 (by decide) (fun c => absurd c (by decide)) (fun c => ?_)
  refine lv_aload_n hx hb dX5_init_78 rfl (lv_at hl 1 rfl) ?_
  refine gr_X5_19 cx hw (nt_is hB (o := 35) (by decide) (by decide +kernel)) (nt_mr (o := 35) (k := 1) (v := 37) (by decide +kernel)) (nt_is hB (o := 37) (kn := (11, 6)) (by decide) (by decide +kernel)) dX5_init_79 ?_
  refine lv_iload_n hx hb dX5_init_82 rfl (lv_at hl 0 rfl) ?_
  refine nt_new (ci := 4) cx hw (by decide +kernel) rfl cl_X5_17 wn_X4 wi_X4 ⟨Nat.le_of_ble_eq_true rfl, Nat.le_of_ble_eq_true rfl⟩ dX5_init_83 (fun H hw => ?_)
  refine lv_dup hx hb dX5_init_86 rfl ?_
  refine nc_runN cx hw ln_X5_35 (cn_X4_init_50 l hB (nc_up mi (K0.1 + 35) 4 4)) rfl hl.1 rfl (Nat.le_of_ble_eq_true rfl) ⟨rfl, rfl, Nat.le_of_ble_eq_true rfl, Nat.le_of_ble_eq_true rfl⟩ ⟨Nat.le_of_ble_eq_true rfl, Nat.le_of_ble_eq_true rfl⟩ dX5_init_87 (fun H locs hw => ?_)
  refine nt_aast (n := 6) (v := 50) (o := 37) (ki := 11) (t0 := 2) (ci := 4) (q := 4) cx hB hw (by decide +kernel) (by decide) (by decide) (by decide +kernel) (by decide +kernel) (by decide) rfl rfl (nc_lit (j := 4) rfl (by decide) (by decide)) rfl dX5_init_90 (fun H locs hw => ?_)
  refine lv_iinc (v := 5) (lv' := [(1, .int 5), (0, .ref (K0.1 + 35))]) hx hb dX5_init_91 hl (k := 0) rfl (by decide) (by decide) rfl (fun ls hl => ?_)
  refine lv_goto (tgt := 72) hx hb dX5_init_94 (by decide) ?_
  refine lv_iload_n hx hb dX5_init_72 rfl (lv_at hl 0 rfl) ?_
  refine lv_bipush (v := 6) hx hb dX5_init_73 (by decide) ?_
  refine lv_icmp_ge (tgt := 97) hx hb dX5_init_75 (by decide) (fun c => absurd c (by decide)) (fun c => ?_)
  refine lv_aload_n hx hb dX5_init_78 rfl (lv_at hl 1 rfl) ?_
  refine gr_X5_19 cx hw (nt_is hB (o := 35) (by decide) (by decide +kernel)) (nt_mr (o := 35) (k := 1) (v := 37) (by decide +kernel)) (nt_is hB (o := 37) (kn := (11, 6)) (by decide) (by decide +kernel)) dX5_init_79 ?_
  refine lv_iload_n hx hb dX5_init_82 rfl (lv_at hl 0 rfl) ?_
  refine nt_new (ci := 4) cx hw (by decide +kernel) rfl cl_X5_17 wn_X4 wi_X4 ⟨Nat.le_of_ble_eq_true rfl, Nat.le_of_ble_eq_true rfl⟩ dX5_init_83 (fun H hw => ?_)
  refine lv_dup hx hb dX5_init_86 rfl ?_
  refine nc_runN cx hw ln_X5_35 (cn_X4_init_51 l hB (nc_up mi (K0.1 + 35) 4 4)) rfl hl.1 rfl (Nat.le_of_ble_eq_true rfl) ⟨rfl, rfl, Nat.le_of_ble_eq_true rfl, Nat.le_of_ble_eq_true rfl⟩ ⟨Nat.le_of_ble_eq_true rfl, Nat.le_of_ble_eq_true rfl⟩ dX5_init_87 (fun H locs hw => ?_)
  refine nt_aast (n := 6) (v := 51) (o := 37) (ki := 11) (t0 := 2) (ci := 4) (q := 5) cx hB hw (by decide +kernel) (by decide) (by decide) (by decide +kernel) (by decide +kernel) (by decide) rfl rfl (nc_lit (j := 5) rfl (by decide) (by decide)) rfl dX5_init_90 (fun H locs hw => ?_)
  refine lv_iinc (v := 6) (lv' := [(1, .int 6), (0, .ref (K0.1 + 35))]) hx hb dX5_init_91 hl (k := 0) rfl (by decide) (by decide) rfl (fun ls hl => ?_)
  refine lv_goto (tgt := 72) hx hb dX5_init_94 (by decide) ?_
  refine lv_iload_n hx hb dX5_init_72 rfl (lv_at hl 0 rfl) ?_
  refine lv_bipush (v := 6) hx hb dX5_init_73 (by decide) ?_
  refine lv_icmp_ge (tgt := 97) hx hb dX5_init_75 (by decide) (fun c => ?_) (fun c => absurd (by decide) c)
  refine lv_aload_n hx hb dX5_init_97 rfl (lv_at hl 1 rfl) ?_
  have hLT : nc_LTown G (nc_kt nc_SN nc_RN K0 52 50) (K0.1 + 35) := ⟨(nt_is hB (o := 35) (by decide) (by decide +kernel)), (nt_mr (o := 35) (k := 0) (v := 36) (by decide +kernel)), (nt_is hB (o := 36) (by decide) (by decide +kernel)), (nc_all6 ⟨(nt_mr (o := 36) (k := 0) (v := 40) (by decide +kernel)), (nt_is hB (o := 40) (by decide) (by decide +kernel))⟩ ⟨(nt_mr (o := 36) (k := 1) (v := 41) (by decide +kernel)), (nt_is hB (o := 41) (by decide) (by decide +kernel))⟩ ⟨(nt_mr (o := 36) (k := 2) (v := 42) (by decide +kernel)), (nt_is hB (o := 42) (by decide) (by decide +kernel))⟩ ⟨(nt_mr (o := 36) (k := 3) (v := 43) (by decide +kernel)), (nt_is hB (o := 43) (by decide) (by decide +kernel))⟩ ⟨(nt_mr (o := 36) (k := 4) (v := 44) (by decide +kernel)), (nt_is hB (o := 44) (by decide) (by decide +kernel))⟩ ⟨(nt_mr (o := 36) (k := 5) (v := 45) (by decide +kernel)), (nt_is hB (o := 45) (by decide) (by decide +kernel))⟩), (nt_mr (o := 35) (k := 1) (v := 37) (by decide +kernel)), (nt_is hB (o := 37) (by decide) (by decide +kernel)), (nc_all6 ⟨(nt_mr (o := 37) (k := 0) (v := 46) (by decide +kernel)), (nt_is hB (o := 46) (by decide) (by decide +kernel))⟩ ⟨(nt_mr (o := 37) (k := 1) (v := 47) (by decide +kernel)), (nt_is hB (o := 47) (by decide) (by decide +kernel))⟩ ⟨(nt_mr (o := 37) (k := 2) (v := 48) (by decide +kernel)), (nt_is hB (o := 48) (by decide) (by decide +kernel))⟩ ⟨(nt_mr (o := 37) (k := 3) (v := 49) (by decide +kernel)), (nt_is hB (o := 49) (by decide) (by decide +kernel))⟩ ⟨(nt_mr (o := 37) (k := 4) (v := 50) (by decide +kernel)), (nt_is hB (o := 50) (by decide) (by decide +kernel))⟩ ⟨(nt_mr (o := 37) (k := 5) (v := 51) (by decide +kernel)), (nt_is hB (o := 51) (by decide) (by decide +kernel))⟩), (nt_mr (o := 35) (k := 2) (v := 38) (by decide +kernel)), (nt_is hB (o := 38) (by decide) (by decide +kernel)), (nt_mr (o := 35) (k := 3) (v := 39) (by decide +kernel)), (nt_is hB (o := 39) (by decide) (by decide +kernel))⟩
  refine nc_runV cx hw lk_X5_36 (c_X5_measure l hLT _ _ hf) (ci := 5) rfl (nt_is hB (o := 35) (by decide) (by decide +kernel)) rfl hl.1 rfl (Nat.le_of_ble_eq_true rfl) ⟨rfl, rfl, Nat.le_of_ble_eq_true rfl, Nat.le_of_ble_eq_true rfl⟩ ⟨Nat.le_of_ble_eq_true rfl, Nat.le_of_ble_eq_true rfl⟩ dX5_init_98 (fun H locs hw => ?_)
  exact nc_vretK cx hw hr hlocks ⟨rfl, rfl⟩ ⟨Nat.le_of_ble_eq_true rfl, Nat.le_of_ble_eq_true rfl⟩ dX5_init_101
abbrev rm_cn_X1_init_52 : Room := { frames := 1, cells := 2, slots := 71, locals := 40 }
set_option maxRecDepth 100000 in
set_option maxHeartbeats 4000000 in
theorem cn_X1_init_52 (l : Launch) {G : nc_G} {K0 : nc_K} (hB : G.2.2.1 ≤ K0.1) (mi : nc_Mem)   : nc_M l yX1_init cX1_init 1 none rm_cn_X1_init_52 2 71 G (nc_kt nc_SN nc_RN K0 53 51) (nc_kt nc_SN nc_RN K0 55 53) [.ref (K0.1 + 52)] mi mi none := by
  refine nc_meet_n (by decide) (Nat.le_of_ble_eq_true rfl) ?_
  intro p e s m args below meth c ls H cx hin hr hlocks hw hl
  have cx : nc_C p s m args c cX1_init 1 RX1 G := cx
  have hin : meth.name = "<init>" := hin
  have hl : lv_has ls 1 [(0, .ref (K0.1 + 52))] := hl
  have hx := cx.1
  have hb := cx.2.1
  refine lv_aload_n hx hb dX1_init_0 rfl (lv_at hl 0 rfl) ?_
  refine nc_oi cx hl.1 oi_X1 wo_i wo_c ⟨Nat.le_of_ble_eq_true rfl, Nat.le_of_ble_eq_true rfl⟩ dX1_init_1 ?_
  refine lv_aload_n hx hb dX1_init_4 rfl (lv_at hl 0 rfl) ?_
  refine lv_bipush (v := 64) hx hb dX1_init_5 (by decide) ?_
  refine nt_int (N := 64) cx hw (by decide +kernel) wa_int (by decide) (by decide) (Nat.le_of_ble_eq_true rfl) ⟨Nat.le_of_ble_eq_true rfl, Nat.le_of_ble_eq_true rfl⟩ dX1_init_7 (fun H hw => ?_)
  refine nt_putF (ci := 1) (k := 0) (ty := .array .int) cx hB hw (by decide +kernel) (by decide) (by decide +kernel) rfl (by decide) rfl rfl rfl hin (by decide +kernel) rfl rfl fl_X1_9 dX1_init_9 (fun H locs hw => ?_)
  refine lv_aload_n hx hb dX1_init_12 rfl (lv_at hl 0 rfl) ?_
  refine lv_bipush (v := 7) hx hb dX1_init_13 (by decide) ?_
  refine nt_int (N := 7) cx hw (by decide +kernel) wa_int (by decide) (by decide) (Nat.le_of_ble_eq_true rfl) ⟨Nat.le_of_ble_eq_true rfl, Nat.le_of_ble_eq_true rfl⟩ dX1_init_15 (fun H hw => ?_)
  refine nt_putF (ci := 1) (k := 1) (ty := .array .int) cx hB hw (by decide +kernel) (by decide) (by decide +kernel) rfl (by decide) rfl rfl rfl hin (by decide +kernel) rfl rfl fl_X1_15 dX1_init_17 (fun H locs hw => ?_)
  exact nc_vretK cx hw hr hlocks ⟨rfl, rfl⟩ ⟨Nat.le_of_ble_eq_true rfl, Nat.le_of_ble_eq_true rfl⟩ dX1_init_20
abbrev rm_cn_X6_init_59 : Room := { frames := 1, cells := 2, slots := 14, locals := 40 }
set_option maxRecDepth 100000 in
set_option maxHeartbeats 4000000 in
theorem cn_X6_init_59 (l : Launch) {G : nc_G} {K0 : nc_K} (hB : G.2.2.1 ≤ K0.1) (mi : nc_Mem)   : nc_M l yX6_init cX6_init 1 none rm_cn_X6_init_59 2 14 G (nc_kt nc_SN nc_RN K0 60 58) (nc_kt nc_SN nc_RN K0 62 60) [.ref (K0.1 + 59)] mi mi none := by
  refine nc_meet_n (by decide) (Nat.le_of_ble_eq_true rfl) ?_
  intro p e s m args below meth c ls H cx hin hr hlocks hw hl
  have cx : nc_C p s m args c cX6_init 1 RX6 G := cx
  have hin : meth.name = "<init>" := hin
  have hl : lv_has ls 1 [(0, .ref (K0.1 + 59))] := hl
  have hx := cx.1
  have hb := cx.2.1
  refine lv_aload_n hx hb dX6_init_0 rfl (lv_at hl 0 rfl) ?_
  refine nc_oi cx hl.1 oi_X6 wo_i wo_c ⟨Nat.le_of_ble_eq_true rfl, Nat.le_of_ble_eq_true rfl⟩ dX6_init_1 ?_
  refine lv_aload_n hx hb dX6_init_4 rfl (lv_at hl 0 rfl) ?_
  refine lv_bipush (v := 7) hx hb dX6_init_5 (by decide) ?_
  refine nt_int (N := 7) cx hw (by decide +kernel) wa_int (by decide) (by decide) (Nat.le_of_ble_eq_true rfl) ⟨Nat.le_of_ble_eq_true rfl, Nat.le_of_ble_eq_true rfl⟩ dX6_init_7 (fun H hw => ?_)
  refine nt_putF (ci := 6) (k := 0) (ty := .array .int) cx hB hw (by decide +kernel) (by decide) (by decide +kernel) rfl (by decide) rfl rfl rfl hin (by decide +kernel) rfl rfl fl_X6_9 dX6_init_9 (fun H locs hw => ?_)
  refine lv_aload_n hx hb dX6_init_12 rfl (lv_at hl 0 rfl) ?_
  refine lv_bipush (v := 7) hx hb dX6_init_13 (by decide) ?_
  refine nt_int (N := 7) cx hw (by decide +kernel) wa_int (by decide) (by decide) (Nat.le_of_ble_eq_true rfl) ⟨Nat.le_of_ble_eq_true rfl, Nat.le_of_ble_eq_true rfl⟩ dX6_init_15 (fun H hw => ?_)
  refine nt_putF (ci := 6) (k := 1) (ty := .array .int) cx hB hw (by decide +kernel) (by decide) (by decide +kernel) rfl (by decide) rfl rfl rfl hin (by decide +kernel) rfl rfl fl_X6_15 dX6_init_17 (fun H locs hw => ?_)
  exact nc_vretK cx hw hr hlocks ⟨rfl, rfl⟩ ⟨Nat.le_of_ble_eq_true rfl, Nat.le_of_ble_eq_true rfl⟩ dX6_init_20
abbrev rm_cn_X6_init_62 : Room := { frames := 1, cells := 2, slots := 14, locals := 40 }
set_option maxRecDepth 100000 in
set_option maxHeartbeats 4000000 in
theorem cn_X6_init_62 (l : Launch) {G : nc_G} {K0 : nc_K} (hB : G.2.2.1 ≤ K0.1) (mi : nc_Mem)   : nc_M l yX6_init cX6_init 1 none rm_cn_X6_init_62 2 14 G (nc_kt nc_SN nc_RN K0 63 61) (nc_kt nc_SN nc_RN K0 65 63) [.ref (K0.1 + 62)] mi mi none := by
  refine nc_meet_n (by decide) (Nat.le_of_ble_eq_true rfl) ?_
  intro p e s m args below meth c ls H cx hin hr hlocks hw hl
  have cx : nc_C p s m args c cX6_init 1 RX6 G := cx
  have hin : meth.name = "<init>" := hin
  have hl : lv_has ls 1 [(0, .ref (K0.1 + 62))] := hl
  have hx := cx.1
  have hb := cx.2.1
  refine lv_aload_n hx hb dX6_init_0 rfl (lv_at hl 0 rfl) ?_
  refine nc_oi cx hl.1 oi_X6 wo_i wo_c ⟨Nat.le_of_ble_eq_true rfl, Nat.le_of_ble_eq_true rfl⟩ dX6_init_1 ?_
  refine lv_aload_n hx hb dX6_init_4 rfl (lv_at hl 0 rfl) ?_
  refine lv_bipush (v := 7) hx hb dX6_init_5 (by decide) ?_
  refine nt_int (N := 7) cx hw (by decide +kernel) wa_int (by decide) (by decide) (Nat.le_of_ble_eq_true rfl) ⟨Nat.le_of_ble_eq_true rfl, Nat.le_of_ble_eq_true rfl⟩ dX6_init_7 (fun H hw => ?_)
  refine nt_putF (ci := 6) (k := 0) (ty := .array .int) cx hB hw (by decide +kernel) (by decide) (by decide +kernel) rfl (by decide) rfl rfl rfl hin (by decide +kernel) rfl rfl fl_X6_9 dX6_init_9 (fun H locs hw => ?_)
  refine lv_aload_n hx hb dX6_init_12 rfl (lv_at hl 0 rfl) ?_
  refine lv_bipush (v := 7) hx hb dX6_init_13 (by decide) ?_
  refine nt_int (N := 7) cx hw (by decide +kernel) wa_int (by decide) (by decide) (Nat.le_of_ble_eq_true rfl) ⟨Nat.le_of_ble_eq_true rfl, Nat.le_of_ble_eq_true rfl⟩ dX6_init_15 (fun H hw => ?_)
  refine nt_putF (ci := 6) (k := 1) (ty := .array .int) cx hB hw (by decide +kernel) (by decide) (by decide +kernel) rfl (by decide) rfl rfl rfl hin (by decide +kernel) rfl rfl fl_X6_15 dX6_init_17 (fun H locs hw => ?_)
  exact nc_vretK cx hw hr hlocks ⟨rfl, rfl⟩ ⟨Nat.le_of_ble_eq_true rfl, Nat.le_of_ble_eq_true rfl⟩ dX6_init_20
abbrev rm_cn_X6_init_65 : Room := { frames := 1, cells := 2, slots := 14, locals := 40 }
set_option maxRecDepth 100000 in
set_option maxHeartbeats 4000000 in
theorem cn_X6_init_65 (l : Launch) {G : nc_G} {K0 : nc_K} (hB : G.2.2.1 ≤ K0.1) (mi : nc_Mem)   : nc_M l yX6_init cX6_init 1 none rm_cn_X6_init_65 2 14 G (nc_kt nc_SN nc_RN K0 66 64) (nc_kt nc_SN nc_RN K0 68 66) [.ref (K0.1 + 65)] mi mi none := by
  refine nc_meet_n (by decide) (Nat.le_of_ble_eq_true rfl) ?_
  intro p e s m args below meth c ls H cx hin hr hlocks hw hl
  have cx : nc_C p s m args c cX6_init 1 RX6 G := cx
  have hin : meth.name = "<init>" := hin
  have hl : lv_has ls 1 [(0, .ref (K0.1 + 65))] := hl
  have hx := cx.1
  have hb := cx.2.1
  refine lv_aload_n hx hb dX6_init_0 rfl (lv_at hl 0 rfl) ?_
  refine nc_oi cx hl.1 oi_X6 wo_i wo_c ⟨Nat.le_of_ble_eq_true rfl, Nat.le_of_ble_eq_true rfl⟩ dX6_init_1 ?_
  refine lv_aload_n hx hb dX6_init_4 rfl (lv_at hl 0 rfl) ?_
  refine lv_bipush (v := 7) hx hb dX6_init_5 (by decide) ?_
  refine nt_int (N := 7) cx hw (by decide +kernel) wa_int (by decide) (by decide) (Nat.le_of_ble_eq_true rfl) ⟨Nat.le_of_ble_eq_true rfl, Nat.le_of_ble_eq_true rfl⟩ dX6_init_7 (fun H hw => ?_)
  refine nt_putF (ci := 6) (k := 0) (ty := .array .int) cx hB hw (by decide +kernel) (by decide) (by decide +kernel) rfl (by decide) rfl rfl rfl hin (by decide +kernel) rfl rfl fl_X6_9 dX6_init_9 (fun H locs hw => ?_)
  refine lv_aload_n hx hb dX6_init_12 rfl (lv_at hl 0 rfl) ?_
  refine lv_bipush (v := 7) hx hb dX6_init_13 (by decide) ?_
  refine nt_int (N := 7) cx hw (by decide +kernel) wa_int (by decide) (by decide) (Nat.le_of_ble_eq_true rfl) ⟨Nat.le_of_ble_eq_true rfl, Nat.le_of_ble_eq_true rfl⟩ dX6_init_15 (fun H hw => ?_)
  refine nt_putF (ci := 6) (k := 1) (ty := .array .int) cx hB hw (by decide +kernel) (by decide) (by decide +kernel) rfl (by decide) rfl rfl rfl hin (by decide +kernel) rfl rfl fl_X6_15 dX6_init_17 (fun H locs hw => ?_)
  exact nc_vretK cx hw hr hlocks ⟨rfl, rfl⟩ ⟨Nat.le_of_ble_eq_true rfl, Nat.le_of_ble_eq_true rfl⟩ dX6_init_20
abbrev rm_cn_X6_init_68 : Room := { frames := 1, cells := 2, slots := 14, locals := 40 }
set_option maxRecDepth 100000 in
set_option maxHeartbeats 4000000 in
theorem cn_X6_init_68 (l : Launch) {G : nc_G} {K0 : nc_K} (hB : G.2.2.1 ≤ K0.1) (mi : nc_Mem)   : nc_M l yX6_init cX6_init 1 none rm_cn_X6_init_68 2 14 G (nc_kt nc_SN nc_RN K0 69 67) (nc_kt nc_SN nc_RN K0 71 69) [.ref (K0.1 + 68)] mi mi none := by
  refine nc_meet_n (by decide) (Nat.le_of_ble_eq_true rfl) ?_
  intro p e s m args below meth c ls H cx hin hr hlocks hw hl
  have cx : nc_C p s m args c cX6_init 1 RX6 G := cx
  have hin : meth.name = "<init>" := hin
  have hl : lv_has ls 1 [(0, .ref (K0.1 + 68))] := hl
  have hx := cx.1
  have hb := cx.2.1
  refine lv_aload_n hx hb dX6_init_0 rfl (lv_at hl 0 rfl) ?_
  refine nc_oi cx hl.1 oi_X6 wo_i wo_c ⟨Nat.le_of_ble_eq_true rfl, Nat.le_of_ble_eq_true rfl⟩ dX6_init_1 ?_
  refine lv_aload_n hx hb dX6_init_4 rfl (lv_at hl 0 rfl) ?_
  refine lv_bipush (v := 7) hx hb dX6_init_5 (by decide) ?_
  refine nt_int (N := 7) cx hw (by decide +kernel) wa_int (by decide) (by decide) (Nat.le_of_ble_eq_true rfl) ⟨Nat.le_of_ble_eq_true rfl, Nat.le_of_ble_eq_true rfl⟩ dX6_init_7 (fun H hw => ?_)
  refine nt_putF (ci := 6) (k := 0) (ty := .array .int) cx hB hw (by decide +kernel) (by decide) (by decide +kernel) rfl (by decide) rfl rfl rfl hin (by decide +kernel) rfl rfl fl_X6_9 dX6_init_9 (fun H locs hw => ?_)
  refine lv_aload_n hx hb dX6_init_12 rfl (lv_at hl 0 rfl) ?_
  refine lv_bipush (v := 7) hx hb dX6_init_13 (by decide) ?_
  refine nt_int (N := 7) cx hw (by decide +kernel) wa_int (by decide) (by decide) (Nat.le_of_ble_eq_true rfl) ⟨Nat.le_of_ble_eq_true rfl, Nat.le_of_ble_eq_true rfl⟩ dX6_init_15 (fun H hw => ?_)
  refine nt_putF (ci := 6) (k := 1) (ty := .array .int) cx hB hw (by decide +kernel) (by decide) (by decide +kernel) rfl (by decide) rfl rfl rfl hin (by decide +kernel) rfl rfl fl_X6_15 dX6_init_17 (fun H locs hw => ?_)
  exact nc_vretK cx hw hr hlocks ⟨rfl, rfl⟩ ⟨Nat.le_of_ble_eq_true rfl, Nat.le_of_ble_eq_true rfl⟩ dX6_init_20
abbrev rm_cn_X6_init_71 : Room := { frames := 1, cells := 2, slots := 14, locals := 40 }
set_option maxRecDepth 100000 in
set_option maxHeartbeats 4000000 in
theorem cn_X6_init_71 (l : Launch) {G : nc_G} {K0 : nc_K} (hB : G.2.2.1 ≤ K0.1) (mi : nc_Mem)   : nc_M l yX6_init cX6_init 1 none rm_cn_X6_init_71 2 14 G (nc_kt nc_SN nc_RN K0 72 70) (nc_kt nc_SN nc_RN K0 74 72) [.ref (K0.1 + 71)] mi mi none := by
  refine nc_meet_n (by decide) (Nat.le_of_ble_eq_true rfl) ?_
  intro p e s m args below meth c ls H cx hin hr hlocks hw hl
  have cx : nc_C p s m args c cX6_init 1 RX6 G := cx
  have hin : meth.name = "<init>" := hin
  have hl : lv_has ls 1 [(0, .ref (K0.1 + 71))] := hl
  have hx := cx.1
  have hb := cx.2.1
  refine lv_aload_n hx hb dX6_init_0 rfl (lv_at hl 0 rfl) ?_
  refine nc_oi cx hl.1 oi_X6 wo_i wo_c ⟨Nat.le_of_ble_eq_true rfl, Nat.le_of_ble_eq_true rfl⟩ dX6_init_1 ?_
  refine lv_aload_n hx hb dX6_init_4 rfl (lv_at hl 0 rfl) ?_
  refine lv_bipush (v := 7) hx hb dX6_init_5 (by decide) ?_
  refine nt_int (N := 7) cx hw (by decide +kernel) wa_int (by decide) (by decide) (Nat.le_of_ble_eq_true rfl) ⟨Nat.le_of_ble_eq_true rfl, Nat.le_of_ble_eq_true rfl⟩ dX6_init_7 (fun H hw => ?_)
  refine nt_putF (ci := 6) (k := 0) (ty := .array .int) cx hB hw (by decide +kernel) (by decide) (by decide +kernel) rfl (by decide) rfl rfl rfl hin (by decide +kernel) rfl rfl fl_X6_9 dX6_init_9 (fun H locs hw => ?_)
  refine lv_aload_n hx hb dX6_init_12 rfl (lv_at hl 0 rfl) ?_
  refine lv_bipush (v := 7) hx hb dX6_init_13 (by decide) ?_
  refine nt_int (N := 7) cx hw (by decide +kernel) wa_int (by decide) (by decide) (Nat.le_of_ble_eq_true rfl) ⟨Nat.le_of_ble_eq_true rfl, Nat.le_of_ble_eq_true rfl⟩ dX6_init_15 (fun H hw => ?_)
  refine nt_putF (ci := 6) (k := 1) (ty := .array .int) cx hB hw (by decide +kernel) (by decide) (by decide +kernel) rfl (by decide) rfl rfl rfl hin (by decide +kernel) rfl rfl fl_X6_15 dX6_init_17 (fun H locs hw => ?_)
  exact nc_vretK cx hw hr hlocks ⟨rfl, rfl⟩ ⟨Nat.le_of_ble_eq_true rfl, Nat.le_of_ble_eq_true rfl⟩ dX6_init_20
abbrev rm_cn_X6_init_74 : Room := { frames := 1, cells := 2, slots := 14, locals := 40 }
set_option maxRecDepth 100000 in
set_option maxHeartbeats 4000000 in
theorem cn_X6_init_74 (l : Launch) {G : nc_G} {K0 : nc_K} (hB : G.2.2.1 ≤ K0.1) (mi : nc_Mem)   : nc_M l yX6_init cX6_init 1 none rm_cn_X6_init_74 2 14 G (nc_kt nc_SN nc_RN K0 75 73) (nc_kt nc_SN nc_RN K0 77 75) [.ref (K0.1 + 74)] mi mi none := by
  refine nc_meet_n (by decide) (Nat.le_of_ble_eq_true rfl) ?_
  intro p e s m args below meth c ls H cx hin hr hlocks hw hl
  have cx : nc_C p s m args c cX6_init 1 RX6 G := cx
  have hin : meth.name = "<init>" := hin
  have hl : lv_has ls 1 [(0, .ref (K0.1 + 74))] := hl
  have hx := cx.1
  have hb := cx.2.1
  refine lv_aload_n hx hb dX6_init_0 rfl (lv_at hl 0 rfl) ?_
  refine nc_oi cx hl.1 oi_X6 wo_i wo_c ⟨Nat.le_of_ble_eq_true rfl, Nat.le_of_ble_eq_true rfl⟩ dX6_init_1 ?_
  refine lv_aload_n hx hb dX6_init_4 rfl (lv_at hl 0 rfl) ?_
  refine lv_bipush (v := 7) hx hb dX6_init_5 (by decide) ?_
  refine nt_int (N := 7) cx hw (by decide +kernel) wa_int (by decide) (by decide) (Nat.le_of_ble_eq_true rfl) ⟨Nat.le_of_ble_eq_true rfl, Nat.le_of_ble_eq_true rfl⟩ dX6_init_7 (fun H hw => ?_)
  refine nt_putF (ci := 6) (k := 0) (ty := .array .int) cx hB hw (by decide +kernel) (by decide) (by decide +kernel) rfl (by decide) rfl rfl rfl hin (by decide +kernel) rfl rfl fl_X6_9 dX6_init_9 (fun H locs hw => ?_)
  refine lv_aload_n hx hb dX6_init_12 rfl (lv_at hl 0 rfl) ?_
  refine lv_bipush (v := 7) hx hb dX6_init_13 (by decide) ?_
  refine nt_int (N := 7) cx hw (by decide +kernel) wa_int (by decide) (by decide) (Nat.le_of_ble_eq_true rfl) ⟨Nat.le_of_ble_eq_true rfl, Nat.le_of_ble_eq_true rfl⟩ dX6_init_15 (fun H hw => ?_)
  refine nt_putF (ci := 6) (k := 1) (ty := .array .int) cx hB hw (by decide +kernel) (by decide) (by decide +kernel) rfl (by decide) rfl rfl rfl hin (by decide +kernel) rfl rfl fl_X6_15 dX6_init_17 (fun H locs hw => ?_)
  exact nc_vretK cx hw hr hlocks ⟨rfl, rfl⟩ ⟨Nat.le_of_ble_eq_true rfl, Nat.le_of_ble_eq_true rfl⟩ dX6_init_20
abbrev rm_cn_X2_init_55 : Room := { frames := 2, cells := 21, slots := 122, locals := 60 }
set_option maxRecDepth 100000 in
set_option maxHeartbeats 4000000 in
theorem cn_X2_init_55 (l : Launch) {G : nc_G} {K0 : nc_K} (hB : G.2.2.1 ≤ K0.1) (mi : nc_Mem)   : nc_M l yX2_init cX2_init 3 none rm_cn_X2_init_55 21 122 G (nc_kt nc_SN nc_RN K0 56 54) (nc_kt nc_SN nc_RN K0 77 76) [.ref (K0.1 + 55), .ref (K0.1 + 1)] mi mi none := by
  refine nc_meet_n (by decide) (Nat.le_of_ble_eq_true rfl) ?_
  intro p e s m args below meth c ls H cx hin hr hlocks hw hl
  have cx : nc_C p s m args c cX2_init 3 RX2 G := cx
  have hin : meth.name = "<init>" := hin
  have hl : lv_has ls 3 [(0, .ref (K0.1 + 55)), (1, .ref (K0.1 + 1))] := hl
  have hx := cx.1
  have hb := cx.2.1
  refine lv_aload_n hx hb dX2_init_0 rfl (lv_at hl 0 rfl) ?_
  refine nc_oi cx hl.1 oi_X2 wo_i wo_c ⟨Nat.le_of_ble_eq_true rfl, Nat.le_of_ble_eq_true rfl⟩ dX2_init_1 ?_
  refine lv_aload_n hx hb dX2_init_4 rfl (lv_at hl 0 rfl) ?_
  refine lv_bipush (v := 6) hx hb dX2_init_5 (by decide) ?_
  refine nt_ref (N := 6) (ki := 12) (t0 := 3) cx hw (by decide +kernel) (by decide) cl_X2_9 (by decide) rfl (by decide) (by decide) (Nat.le_of_ble_eq_true rfl) ⟨Nat.le_of_ble_eq_true rfl, Nat.le_of_ble_eq_true rfl⟩ dX2_init_7 (fun H hw => ?_)
  refine nt_putF (ci := 2) (k := 1) (ty := .array (.object "NobodyCarries$Way")) cx hB hw (by decide +kernel) (by decide) (by decide +kernel) rfl (by decide) rfl rfl rfl hin (by decide +kernel) rfl rfl fl_X2_11 dX2_init_10 (fun H locs hw => ?_)
  refine lv_aload_n hx hb dX2_init_13 rfl (lv_at hl 0 rfl) ?_
  refine lv_bipush (v := 7) hx hb dX2_init_14 (by decide) ?_
  refine nt_int (N := 7) cx hw (by decide +kernel) wa_int (by decide) (by decide) (Nat.le_of_ble_eq_true rfl) ⟨Nat.le_of_ble_eq_true rfl, Nat.le_of_ble_eq_true rfl⟩ dX2_init_16 (fun H hw => ?_)
  refine nt_putF (ci := 2) (k := 2) (ty := .array .int) cx hB hw (by decide +kernel) (by decide) (by decide +kernel) rfl (by decide) rfl rfl rfl hin (by decide +kernel) rfl rfl fl_X2_17 dX2_init_18 (fun H locs hw => ?_)
  refine lv_aload_n hx hb dX2_init_21 rfl (lv_at hl 0 rfl) ?_
  refine lv_bipush (v := 7) hx hb dX2_init_22 (by decide) ?_
  refine nt_int (N := 7) cx hw (by decide +kernel) wa_int (by decide) (by decide) (Nat.le_of_ble_eq_true rfl) ⟨Nat.le_of_ble_eq_true rfl, Nat.le_of_ble_eq_true rfl⟩ dX2_init_24 (fun H hw => ?_)
  refine nt_putF (ci := 2) (k := 3) (ty := .array .int) cx hB hw (by decide +kernel) (by decide) (by decide +kernel) rfl (by decide) rfl rfl rfl hin (by decide +kernel) rfl rfl fl_X2_21 dX2_init_26 (fun H locs hw => ?_)
  refine lv_aload_n hx hb dX2_init_29 rfl (lv_at hl 0 rfl) ?_
  refine lv_aload_n hx hb dX2_init_30 rfl (lv_at hl 1 rfl) ?_
  refine nt_putF (ci := 2) (k := 0) (ty := .object "NobodyCarries$Town") cx hB hw (by decide +kernel) (by decide) (by decide +kernel) rfl (by decide) rfl rfl rfl hin (by decide +kernel) rfl rfl fl_X2_24 dX2_init_31 (fun H locs hw => ?_)
  refine lv_iconst (v := 0) hx hb dX2_init_34 (by decide) ?_
  refine lv_istore_n (lv' := [(2, .int 0), (0, .ref (K0.1 + 55)), (1, .ref (K0.1 + 1))]) hx hb dX2_init_35 rfl hl (by decide) rfl (fun ls hl => ?_)
  refine lv_iload_n hx hb dX2_init_36 rfl (lv_at hl 0 rfl) ?_
  refine lv_bipush (v := 6) hx hb dX2_init_37 (by decide) ?_
  refine lv_icmp_ge (tgt := 61) hx hb dX2_init_39 (by decide) (fun c => absurd c (by decide)) (fun c => ?_)
  refine lv_aload_n hx hb dX2_init_42 rfl (lv_at hl 1 rfl) ?_
  refine gr_X2_11 cx hw (nt_is hB (o := 55) (by decide) (by decide +kernel)) (nt_mr (o := 55) (k := 1) (v := 56) (by decide +kernel)) (nt_is hB (o := 56) (kn := (12, 6)) (by decide) (by decide +kernel)) dX2_init_43 ?_
  refine lv_iload_n hx hb dX2_init_46 rfl (lv_at hl 0 rfl) ?_
  refine nt_new (ci := 6) cx hw (by decide +kernel) rfl cl_X2_9 wn_X6 wi_X6 ⟨Nat.le_of_ble_eq_true rfl, Nat.le_of_ble_eq_true rfl⟩ dX2_init_47 (fun H hw => ?_)
  refine lv_dup hx hb dX2_init_50 rfl ?_
  refine nc_runN cx hw ln_X2_28 (cn_X6_init_59 l hB mi) rfl hl.1 rfl (Nat.le_of_ble_eq_true rfl) ⟨rfl, rfl, Nat.le_of_ble_eq_true rfl, Nat.le_of_ble_eq_true rfl⟩ ⟨Nat.le_of_ble_eq_true rfl, Nat.le_of_ble_eq_true rfl⟩ dX2_init_51 (fun H locs hw => ?_)
  refine nt_aast (n := 6) (v := 59) (o := 56) (ki := 12) (t0 := 3) (ci := 6) (q := 0) cx hB hw (by decide +kernel) (by decide) (by decide) (by decide +kernel) (by decide +kernel) (by decide) rfl rfl (nc_lit (j := 0) rfl (by decide) (by decide)) rfl dX2_init_54 (fun H locs hw => ?_)
  refine lv_iinc (v := 1) (lv' := [(2, .int 1), (0, .ref (K0.1 + 55)), (1, .ref (K0.1 + 1))]) hx hb dX2_init_55 hl (k := 0) rfl (by decide) (by decide) rfl (fun ls hl => ?_)
  refine lv_goto (tgt := 36) hx hb dX2_init_58 (by decide) ?_
  refine lv_iload_n hx hb dX2_init_36 rfl (lv_at hl 0 rfl) ?_
  refine lv_bipush (v := 6) hx hb dX2_init_37 (by decide) ?_
  refine lv_icmp_ge (tgt := 61) hx hb dX2_init_39 (by decide) (fun c => absurd c (by decide)) (fun c => ?_)
  refine lv_aload_n hx hb dX2_init_42 rfl (lv_at hl 1 rfl) ?_
  refine gr_X2_11 cx hw (nt_is hB (o := 55) (by decide) (by decide +kernel)) (nt_mr (o := 55) (k := 1) (v := 56) (by decide +kernel)) (nt_is hB (o := 56) (kn := (12, 6)) (by decide) (by decide +kernel)) dX2_init_43 ?_
  refine lv_iload_n hx hb dX2_init_46 rfl (lv_at hl 0 rfl) ?_
  refine nt_new (ci := 6) cx hw (by decide +kernel) rfl cl_X2_9 wn_X6 wi_X6 ⟨Nat.le_of_ble_eq_true rfl, Nat.le_of_ble_eq_true rfl⟩ dX2_init_47 (fun H hw => ?_)
  refine lv_dup hx hb dX2_init_50 rfl ?_
  refine nc_runN cx hw ln_X2_28 (cn_X6_init_62 l hB mi) rfl hl.1 rfl (Nat.le_of_ble_eq_true rfl) ⟨rfl, rfl, Nat.le_of_ble_eq_true rfl, Nat.le_of_ble_eq_true rfl⟩ ⟨Nat.le_of_ble_eq_true rfl, Nat.le_of_ble_eq_true rfl⟩ dX2_init_51 (fun H locs hw => ?_)
  refine nt_aast (n := 6) (v := 62) (o := 56) (ki := 12) (t0 := 3) (ci := 6) (q := 1) cx hB hw (by decide +kernel) (by decide) (by decide) (by decide +kernel) (by decide +kernel) (by decide) rfl rfl (nc_lit (j := 1) rfl (by decide) (by decide)) rfl dX2_init_54 (fun H locs hw => ?_)
  refine lv_iinc (v := 2) (lv' := [(2, .int 2), (0, .ref (K0.1 + 55)), (1, .ref (K0.1 + 1))]) hx hb dX2_init_55 hl (k := 0) rfl (by decide) (by decide) rfl (fun ls hl => ?_)
  refine lv_goto (tgt := 36) hx hb dX2_init_58 (by decide) ?_
  refine lv_iload_n hx hb dX2_init_36 rfl (lv_at hl 0 rfl) ?_
  refine lv_bipush (v := 6) hx hb dX2_init_37 (by decide) ?_
  refine lv_icmp_ge (tgt := 61) hx hb dX2_init_39 (by decide) (fun c => absurd c (by decide)) (fun c => ?_)
  refine lv_aload_n hx hb dX2_init_42 rfl (lv_at hl 1 rfl) ?_
  refine gr_X2_11 cx hw (nt_is hB (o := 55) (by decide) (by decide +kernel)) (nt_mr (o := 55) (k := 1) (v := 56) (by decide +kernel)) (nt_is hB (o := 56) (kn := (12, 6)) (by decide) (by decide +kernel)) dX2_init_43 ?_
  refine lv_iload_n hx hb dX2_init_46 rfl (lv_at hl 0 rfl) ?_
  refine nt_new (ci := 6) cx hw (by decide +kernel) rfl cl_X2_9 wn_X6 wi_X6 ⟨Nat.le_of_ble_eq_true rfl, Nat.le_of_ble_eq_true rfl⟩ dX2_init_47 (fun H hw => ?_)
  refine lv_dup hx hb dX2_init_50 rfl ?_
  refine nc_runN cx hw ln_X2_28 (cn_X6_init_65 l hB mi) rfl hl.1 rfl (Nat.le_of_ble_eq_true rfl) ⟨rfl, rfl, Nat.le_of_ble_eq_true rfl, Nat.le_of_ble_eq_true rfl⟩ ⟨Nat.le_of_ble_eq_true rfl, Nat.le_of_ble_eq_true rfl⟩ dX2_init_51 (fun H locs hw => ?_)
  refine nt_aast (n := 6) (v := 65) (o := 56) (ki := 12) (t0 := 3) (ci := 6) (q := 2) cx hB hw (by decide +kernel) (by decide) (by decide) (by decide +kernel) (by decide +kernel) (by decide) rfl rfl (nc_lit (j := 2) rfl (by decide) (by decide)) rfl dX2_init_54 (fun H locs hw => ?_)
  refine lv_iinc (v := 3) (lv' := [(2, .int 3), (0, .ref (K0.1 + 55)), (1, .ref (K0.1 + 1))]) hx hb dX2_init_55 hl (k := 0) rfl (by decide) (by decide) rfl (fun ls hl => ?_)
  refine lv_goto (tgt := 36) hx hb dX2_init_58 (by decide) ?_
  refine lv_iload_n hx hb dX2_init_36 rfl (lv_at hl 0 rfl) ?_
  refine lv_bipush (v := 6) hx hb dX2_init_37 (by decide) ?_
  refine lv_icmp_ge (tgt := 61) hx hb dX2_init_39 (by decide) (fun c => absurd c (by decide)) (fun c => ?_)
  refine lv_aload_n hx hb dX2_init_42 rfl (lv_at hl 1 rfl) ?_
  refine gr_X2_11 cx hw (nt_is hB (o := 55) (by decide) (by decide +kernel)) (nt_mr (o := 55) (k := 1) (v := 56) (by decide +kernel)) (nt_is hB (o := 56) (kn := (12, 6)) (by decide) (by decide +kernel)) dX2_init_43 ?_
  refine lv_iload_n hx hb dX2_init_46 rfl (lv_at hl 0 rfl) ?_
  refine nt_new (ci := 6) cx hw (by decide +kernel) rfl cl_X2_9 wn_X6 wi_X6 ⟨Nat.le_of_ble_eq_true rfl, Nat.le_of_ble_eq_true rfl⟩ dX2_init_47 (fun H hw => ?_)
  refine lv_dup hx hb dX2_init_50 rfl ?_
  refine nc_runN cx hw ln_X2_28 (cn_X6_init_68 l hB mi) rfl hl.1 rfl (Nat.le_of_ble_eq_true rfl) ⟨rfl, rfl, Nat.le_of_ble_eq_true rfl, Nat.le_of_ble_eq_true rfl⟩ ⟨Nat.le_of_ble_eq_true rfl, Nat.le_of_ble_eq_true rfl⟩ dX2_init_51 (fun H locs hw => ?_)
  refine nt_aast (n := 6) (v := 68) (o := 56) (ki := 12) (t0 := 3) (ci := 6) (q := 3) cx hB hw (by decide +kernel) (by decide) (by decide) (by decide +kernel) (by decide +kernel) (by decide) rfl rfl (nc_lit (j := 3) rfl (by decide) (by decide)) rfl dX2_init_54 (fun H locs hw => ?_)
  refine lv_iinc (v := 4) (lv' := [(2, .int 4), (0, .ref (K0.1 + 55)), (1, .ref (K0.1 + 1))]) hx hb dX2_init_55 hl (k := 0) rfl (by decide) (by decide) rfl (fun ls hl => ?_)
  refine lv_goto (tgt := 36) hx hb dX2_init_58 (by decide) ?_
  refine lv_iload_n hx hb dX2_init_36 rfl (lv_at hl 0 rfl) ?_
  refine lv_bipush (v := 6) hx hb dX2_init_37 (by decide) ?_
  refine lv_icmp_ge (tgt := 61) hx hb dX2_init_39 (by decide) (fun c => absurd c (by decide)) (fun c => ?_)
  refine lv_aload_n hx hb dX2_init_42 rfl (lv_at hl 1 rfl) ?_
  refine gr_X2_11 cx hw (nt_is hB (o := 55) (by decide) (by decide +kernel)) (nt_mr (o := 55) (k := 1) (v := 56) (by decide +kernel)) (nt_is hB (o := 56) (kn := (12, 6)) (by decide) (by decide +kernel)) dX2_init_43 ?_
  refine lv_iload_n hx hb dX2_init_46 rfl (lv_at hl 0 rfl) ?_
  refine nt_new (ci := 6) cx hw (by decide +kernel) rfl cl_X2_9 wn_X6 wi_X6 ⟨Nat.le_of_ble_eq_true rfl, Nat.le_of_ble_eq_true rfl⟩ dX2_init_47 (fun H hw => ?_)
  refine lv_dup hx hb dX2_init_50 rfl ?_
  refine nc_runN cx hw ln_X2_28 (cn_X6_init_71 l hB mi) rfl hl.1 rfl (Nat.le_of_ble_eq_true rfl) ⟨rfl, rfl, Nat.le_of_ble_eq_true rfl, Nat.le_of_ble_eq_true rfl⟩ ⟨Nat.le_of_ble_eq_true rfl, Nat.le_of_ble_eq_true rfl⟩ dX2_init_51 (fun H locs hw => ?_)
  refine nt_aast (n := 6) (v := 71) (o := 56) (ki := 12) (t0 := 3) (ci := 6) (q := 4) cx hB hw (by decide +kernel) (by decide) (by decide) (by decide +kernel) (by decide +kernel) (by decide) rfl rfl (nc_lit (j := 4) rfl (by decide) (by decide)) rfl dX2_init_54 (fun H locs hw => ?_)
  refine lv_iinc (v := 5) (lv' := [(2, .int 5), (0, .ref (K0.1 + 55)), (1, .ref (K0.1 + 1))]) hx hb dX2_init_55 hl (k := 0) rfl (by decide) (by decide) rfl (fun ls hl => ?_)
  refine lv_goto (tgt := 36) hx hb dX2_init_58 (by decide) ?_
  refine lv_iload_n hx hb dX2_init_36 rfl (lv_at hl 0 rfl) ?_
  refine lv_bipush (v := 6) hx hb dX2_init_37 (by decide) ?_
  refine lv_icmp_ge (tgt := 61) hx hb dX2_init_39 (by decide) (fun c => absurd c (by decide)) (fun c => ?_)
  refine lv_aload_n hx hb dX2_init_42 rfl (lv_at hl 1 rfl) ?_
  refine gr_X2_11 cx hw (nt_is hB (o := 55) (by decide) (by decide +kernel)) (nt_mr (o := 55) (k := 1) (v := 56) (by decide +kernel)) (nt_is hB (o := 56) (kn := (12, 6)) (by decide) (by decide +kernel)) dX2_init_43 ?_
  refine lv_iload_n hx hb dX2_init_46 rfl (lv_at hl 0 rfl) ?_
  refine nt_new (ci := 6) cx hw (by decide +kernel) rfl cl_X2_9 wn_X6 wi_X6 ⟨Nat.le_of_ble_eq_true rfl, Nat.le_of_ble_eq_true rfl⟩ dX2_init_47 (fun H hw => ?_)
  refine lv_dup hx hb dX2_init_50 rfl ?_
  refine nc_runN cx hw ln_X2_28 (cn_X6_init_74 l hB mi) rfl hl.1 rfl (Nat.le_of_ble_eq_true rfl) ⟨rfl, rfl, Nat.le_of_ble_eq_true rfl, Nat.le_of_ble_eq_true rfl⟩ ⟨Nat.le_of_ble_eq_true rfl, Nat.le_of_ble_eq_true rfl⟩ dX2_init_51 (fun H locs hw => ?_)
  refine nt_aast (n := 6) (v := 74) (o := 56) (ki := 12) (t0 := 3) (ci := 6) (q := 5) cx hB hw (by decide +kernel) (by decide) (by decide) (by decide +kernel) (by decide +kernel) (by decide) rfl rfl (nc_lit (j := 5) rfl (by decide) (by decide)) rfl dX2_init_54 (fun H locs hw => ?_)
  refine lv_iinc (v := 6) (lv' := [(2, .int 6), (0, .ref (K0.1 + 55)), (1, .ref (K0.1 + 1))]) hx hb dX2_init_55 hl (k := 0) rfl (by decide) (by decide) rfl (fun ls hl => ?_)
  refine lv_goto (tgt := 36) hx hb dX2_init_58 (by decide) ?_
  refine lv_iload_n hx hb dX2_init_36 rfl (lv_at hl 0 rfl) ?_
  refine lv_bipush (v := 6) hx hb dX2_init_37 (by decide) ?_
  refine lv_icmp_ge (tgt := 61) hx hb dX2_init_39 (by decide) (fun c => ?_) (fun c => absurd (by decide) c)
  exact nc_vretK cx hw hr hlocks ⟨rfl, rfl⟩ ⟨Nat.le_of_ble_eq_true rfl, Nat.le_of_ble_eq_true rfl⟩ dX2_init_61
abbrev rm_cn_X0_init_77 : Room := { frames := 1, cells := 2, slots := 484, locals := 40 }
set_option maxRecDepth 100000 in
set_option maxHeartbeats 4000000 in
theorem cn_X0_init_77 (l : Launch) {G : nc_G} {K0 : nc_K} (hB : G.2.2.1 ≤ K0.1) (mi : nc_Mem)   : nc_M l yX0_init cX0_init 1 none rm_cn_X0_init_77 2 484 G (nc_kt nc_SN nc_RN K0 78 77) (nc_kt nc_SN nc_RN K0 80 79) [.ref (K0.1 + 77)] mi mi none := by
  refine nc_meet_n (by decide) (Nat.le_of_ble_eq_true rfl) ?_
  intro p e s m args below meth c ls H cx hin hr hlocks hw hl
  have cx : nc_C p s m args c cX0_init 1 RX0 G := cx
  have hin : meth.name = "<init>" := hin
  have hl : lv_has ls 1 [(0, .ref (K0.1 + 77))] := hl
  have hx := cx.1
  have hb := cx.2.1
  refine lv_aload_n hx hb dX0_init_0 rfl (lv_at hl 0 rfl) ?_
  refine nc_oi cx hl.1 oi_X0 wo_i wo_c ⟨Nat.le_of_ble_eq_true rfl, Nat.le_of_ble_eq_true rfl⟩ dX0_init_1 ?_
  refine lv_aload_n hx hb dX0_init_4 rfl (lv_at hl 0 rfl) ?_
  refine lv_bipush (v := 36) hx hb dX0_init_5 (by decide) ?_
  refine nt_int (N := 36) cx hw (by decide +kernel) wa_int (by decide) (by decide) (Nat.le_of_ble_eq_true rfl) ⟨Nat.le_of_ble_eq_true rfl, Nat.le_of_ble_eq_true rfl⟩ dX0_init_7 (fun H hw => ?_)
  refine nt_putF (ci := 0) (k := 0) (ty := .array .int) cx hB hw (by decide +kernel) (by decide) (by decide +kernel) rfl (by decide) rfl rfl rfl hin (by decide +kernel) rfl rfl fl_X0_9 dX0_init_9 (fun H locs hw => ?_)
  refine lv_aload_n hx hb dX0_init_12 rfl (lv_at hl 0 rfl) ?_
  refine lv_sipush (v := 448) hx hb dX0_init_13 (by decide) ?_
  refine nt_int (N := 448) cx hw (by decide +kernel) wa_int (by decide) (by decide) (Nat.le_of_ble_eq_true rfl) ⟨Nat.le_of_ble_eq_true rfl, Nat.le_of_ble_eq_true rfl⟩ dX0_init_16 (fun H hw => ?_)
  refine nt_putF (ci := 0) (k := 1) (ty := .array .int) cx hB hw (by decide +kernel) (by decide) (by decide +kernel) rfl (by decide) rfl rfl rfl hin (by decide +kernel) rfl rfl fl_X0_15 dX0_init_18 (fun H locs hw => ?_)
  exact nc_vretK cx hw hr hlocks ⟨rfl, rfl⟩ ⟨Nat.le_of_ble_eq_true rfl, Nat.le_of_ble_eq_true rfl⟩ dX0_init_21
abbrev rm_cn_X7_init_0 : Room := { frames := 7, cells := 81, slots := 1364, locals := 221 }
set_option maxRecDepth 100000 in
set_option maxHeartbeats 4000000 in
theorem cn_X7_init_0 (l : Launch) {G : nc_G} {K0 : nc_K} (hB : G.2.2.1 ≤ K0.1) (mi : nc_Mem) (m1 : nc_Mem) (m2 : nc_Mem) (m3 : nc_Mem) (hf1 : f_X5_measure (nc_up mi (K0.1 + 1) 4 4) (K0.1 + 1) = some m1) (hf2 : f_X5_measure (nc_up m1 (K0.1 + 18) 4 4) (K0.1 + 18) = some m2) (hf3 : f_X5_measure (nc_up m2 (K0.1 + 35) 4 4) (K0.1 + 35) = some m3) : nc_M l yX7_init cX7_init 1 none rm_cn_X7_init_0 81 1364 G (nc_kt nc_SN nc_RN K0 1 0) (nc_kt nc_SN nc_RN K0 82 82) [.ref (K0.1 + 0)] mi (nc_up (nc_up m3 (K0.1 + 0) 8 0) (K0.1 + 0) 9 0) none := by
  refine nc_meet_n (by decide) (Nat.le_of_ble_eq_true rfl) ?_
  intro p e s m args below meth c ls H cx hin hr hlocks hw hl
  have cx : nc_C p s m args c cX7_init 1 RX7 G := cx
  have hin : meth.name = "<init>" := hin
  have hl : lv_has ls 1 [(0, .ref (K0.1 + 0))] := hl
  have hx := cx.1
  have hb := cx.2.1
  refine lv_aload_n hx hb dX7_init_0 rfl (lv_at hl 0 rfl) ?_
  refine nc_oi cx hl.1 oi_X7 wo_i wo_c ⟨Nat.le_of_ble_eq_true rfl, Nat.le_of_ble_eq_true rfl⟩ dX7_init_1 ?_
  refine lv_aload_n hx hb dX7_init_4 rfl (lv_at hl 0 rfl) ?_
  refine nt_new (ci := 5) cx hw (by decide +kernel) rfl cl_X7_7 wn_X5 wi_X5 ⟨Nat.le_of_ble_eq_true rfl, Nat.le_of_ble_eq_true rfl⟩ dX7_init_5 (fun H hw => ?_)
  refine lv_dup hx hb dX7_init_8 rfl ?_
  refine nc_runI cx hw li_X7_9 (cn_X5_init_1 l hB mi m1 hf1) rfl hl.1 rfl (Nat.le_of_ble_eq_true rfl) ⟨rfl, rfl, Nat.le_of_ble_eq_true rfl, Nat.le_of_ble_eq_true rfl⟩ ⟨Nat.le_of_ble_eq_true rfl, Nat.le_of_ble_eq_true rfl⟩ dX7_init_9 (fun H locs hw => ?_)
  refine nt_putF (ci := 7) (k := 0) (ty := .object "NobodyCarries$Town") cx hB hw (by decide +kernel) (by decide) (by decide +kernel) rfl (by decide) rfl rfl rfl hin (by decide +kernel) rfl rfl fl_X7_10 dX7_init_12 (fun H locs hw => ?_)
  refine lv_aload_n hx hb dX7_init_15 rfl (lv_at hl 0 rfl) ?_
  refine nt_new (ci := 5) cx hw (by decide +kernel) rfl cl_X7_7 wn_X5 wi_X5 ⟨Nat.le_of_ble_eq_true rfl, Nat.le_of_ble_eq_true rfl⟩ dX7_init_16 (fun H hw => ?_)
  refine lv_dup hx hb dX7_init_19 rfl ?_
  refine nc_runI cx hw li_X7_9 (cn_X5_init_18 l hB m1 m2 hf2) rfl hl.1 rfl (Nat.le_of_ble_eq_true rfl) ⟨rfl, rfl, Nat.le_of_ble_eq_true rfl, Nat.le_of_ble_eq_true rfl⟩ ⟨Nat.le_of_ble_eq_true rfl, Nat.le_of_ble_eq_true rfl⟩ dX7_init_20 (fun H locs hw => ?_)
  refine nt_putF (ci := 7) (k := 1) (ty := .object "NobodyCarries$Town") cx hB hw (by decide +kernel) (by decide) (by decide +kernel) rfl (by decide) rfl rfl rfl hin (by decide +kernel) rfl rfl fl_X7_16 dX7_init_23 (fun H locs hw => ?_)
  refine lv_aload_n hx hb dX7_init_26 rfl (lv_at hl 0 rfl) ?_
  refine nt_new (ci := 5) cx hw (by decide +kernel) rfl cl_X7_7 wn_X5 wi_X5 ⟨Nat.le_of_ble_eq_true rfl, Nat.le_of_ble_eq_true rfl⟩ dX7_init_27 (fun H hw => ?_)
  refine lv_dup hx hb dX7_init_30 rfl ?_
  refine nc_runI cx hw li_X7_9 (cn_X5_init_35 l hB m2 m3 hf3) rfl hl.1 rfl (Nat.le_of_ble_eq_true rfl) ⟨rfl, rfl, Nat.le_of_ble_eq_true rfl, Nat.le_of_ble_eq_true rfl⟩ ⟨Nat.le_of_ble_eq_true rfl, Nat.le_of_ble_eq_true rfl⟩ dX7_init_31 (fun H locs hw => ?_)
  refine nt_putF (ci := 7) (k := 2) (ty := .object "NobodyCarries$Town") cx hB hw (by decide +kernel) (by decide) (by decide +kernel) rfl (by decide) rfl rfl rfl hin (by decide +kernel) rfl rfl fl_X7_19 dX7_init_34 (fun H locs hw => ?_)
  refine lv_aload_n hx hb dX7_init_37 rfl (lv_at hl 0 rfl) ?_
  refine nt_new (ci := 1) cx hw (by decide +kernel) rfl cl_X7_22 wn_X1 wi_X1 ⟨Nat.le_of_ble_eq_true rfl, Nat.le_of_ble_eq_true rfl⟩ dX7_init_38 (fun H hw => ?_)
  refine lv_dup hx hb dX7_init_41 rfl ?_
  refine nc_runN cx hw ln_X7_24 (cn_X1_init_52 l hB m3) rfl hl.1 rfl (Nat.le_of_ble_eq_true rfl) ⟨rfl, rfl, Nat.le_of_ble_eq_true rfl, Nat.le_of_ble_eq_true rfl⟩ ⟨Nat.le_of_ble_eq_true rfl, Nat.le_of_ble_eq_true rfl⟩ dX7_init_42 (fun H locs hw => ?_)
  refine nt_putF (ci := 7) (k := 3) (ty := .object "NobodyCarries$Letters") cx hB hw (by decide +kernel) (by decide) (by decide +kernel) rfl (by decide) rfl rfl rfl hin (by decide +kernel) rfl rfl fl_X7_25 dX7_init_45 (fun H locs hw => ?_)
  refine lv_aload_n hx hb dX7_init_48 rfl (lv_at hl 0 rfl) ?_
  refine nt_new (ci := 2) cx hw (by decide +kernel) rfl cl_X7_29 wn_X2 wi_X2 ⟨Nat.le_of_ble_eq_true rfl, Nat.le_of_ble_eq_true rfl⟩ dX7_init_49 (fun H hw => ?_)
  refine lv_dup hx hb dX7_init_52 rfl ?_
  refine lv_aload_n hx hb dX7_init_53 rfl (lv_at hl 0 rfl) ?_
  refine gr_X7_10 cx hw (nt_is hB (o := 0) (by decide) (by decide +kernel)) (nt_mr (o := 0) (k := 0) (v := 1) (by decide +kernel)) (nt_is hB (o := 1) (kn := (5, 8)) (by decide) (by decide +kernel)) dX7_init_54 ?_
  refine nc_runI cx hw li_X7_31 (cn_X2_init_55 l hB m3) rfl hl.1 rfl (Nat.le_of_ble_eq_true rfl) ⟨rfl, rfl, Nat.le_of_ble_eq_true rfl, Nat.le_of_ble_eq_true rfl⟩ ⟨Nat.le_of_ble_eq_true rfl, Nat.le_of_ble_eq_true rfl⟩ dX7_init_57 (fun H locs hw => ?_)
  refine nt_putF (ci := 7) (k := 4) (ty := .object "NobodyCarries$Mind") cx hB hw (by decide +kernel) (by decide) (by decide +kernel) rfl (by decide) rfl rfl rfl hin (by decide +kernel) rfl rfl fl_X7_34 dX7_init_60 (fun H locs hw => ?_)
  refine lv_aload_n hx hb dX7_init_63 rfl (lv_at hl 0 rfl) ?_
  refine nt_new (ci := 0) cx hw (by decide +kernel) rfl cl_X7_38 wn_X0 wi_X0 ⟨Nat.le_of_ble_eq_true rfl, Nat.le_of_ble_eq_true rfl⟩ dX7_init_64 (fun H hw => ?_)
  refine lv_dup hx hb dX7_init_67 rfl ?_
  refine nc_runN cx hw ln_X7_40 (cn_X0_init_77 l hB m3) rfl hl.1 rfl (Nat.le_of_ble_eq_true rfl) ⟨rfl, rfl, Nat.le_of_ble_eq_true rfl, Nat.le_of_ble_eq_true rfl⟩ ⟨Nat.le_of_ble_eq_true rfl, Nat.le_of_ble_eq_true rfl⟩ dX7_init_68 (fun H locs hw => ?_)
  refine nt_putF (ci := 7) (k := 5) (ty := .object "NobodyCarries$Deal") cx hB hw (by decide +kernel) (by decide) (by decide +kernel) rfl (by decide) rfl rfl rfl hin (by decide +kernel) rfl rfl fl_X7_41 dX7_init_71 (fun H locs hw => ?_)
  refine lv_aload_n hx hb dX7_init_74 rfl (lv_at hl 0 rfl) ?_
  refine lv_bipush (v := 6) hx hb dX7_init_75 (by decide) ?_
  refine nt_int (N := 6) cx hw (by decide +kernel) wa_int (by decide) (by decide) (Nat.le_of_ble_eq_true rfl) ⟨Nat.le_of_ble_eq_true rfl, Nat.le_of_ble_eq_true rfl⟩ dX7_init_77 (fun H hw => ?_)
  refine nt_putF (ci := 7) (k := 6) (ty := .array .int) cx hB hw (by decide +kernel) (by decide) (by decide +kernel) rfl (by decide) rfl rfl rfl hin (by decide +kernel) rfl rfl fl_X7_45 dX7_init_79 (fun H locs hw => ?_)
  refine lv_aload_n hx hb dX7_init_82 rfl (lv_at hl 0 rfl) ?_
  refine lv_bipush (v := 7) hx hb dX7_init_83 (by decide) ?_
  refine nt_int (N := 7) cx hw (by decide +kernel) wa_int (by decide) (by decide) (Nat.le_of_ble_eq_true rfl) ⟨Nat.le_of_ble_eq_true rfl, Nat.le_of_ble_eq_true rfl⟩ dX7_init_85 (fun H hw => ?_)
  refine nt_putF (ci := 7) (k := 7) (ty := .array .int) cx hB hw (by decide +kernel) (by decide) (by decide +kernel) rfl (by decide) rfl rfl rfl hin (by decide +kernel) rfl rfl fl_X7_49 dX7_init_87 (fun H locs hw => ?_)
  refine lv_aload_n hx hb dX7_init_90 rfl (lv_at hl 0 rfl) ?_
  refine lv_iconst (v := 0) hx hb dX7_init_91 (by decide) ?_
  refine pi_X7_52 cx hw (nt_is hB (o := 0) (by decide) (by decide +kernel)) dX7_init_92 (fun mi4 H locs emi4 hw => ?_)
  subst emi4
  refine lv_aload_n hx hb dX7_init_95 rfl (lv_at hl 0 rfl) ?_
  refine lv_iconst (v := 0) hx hb dX7_init_96 (by decide) ?_
  refine pi_X7_56 cx hw (nt_is hB (o := 0) (by decide) (by decide +kernel)) rfl rfl dX7_init_97 (fun mi5 H locs emi5 hw => ?_)
  subst emi5
  exact nc_vretK cx hw hr hlocks ⟨rfl, rfl⟩ ⟨Nat.le_of_ble_eq_true rfl, Nat.le_of_ble_eq_true rfl⟩ dX7_init_100
abbrev rm_cn_X8_init_M : Room := { frames := 1, cells := 53, slots := 439, locals := 40 }
set_option maxRecDepth 100000 in
set_option maxHeartbeats 4000000 in
theorem cn_X8_init_M (l : Launch) {G : nc_G} {K0 : nc_K} (hB : G.2.2.1 ≤ K0.1) (hz : ∀ a k', K0.1 ≤ a → K0.2.2 a k' = 0) (mi : nc_Mem)   : nc_M l yX8_init cX8_init 1 none rm_cn_X8_init_M 53 439 G (nc_kt nc_SM nc_RM K0 1 0) (nc_kt nc_SM nc_RM K0 54 53) [.ref (K0.1 + 0)] mi (nc_up mi (K0.1 + 0) 5 4) none := by
  refine nc_meet_n (by decide) (Nat.le_of_ble_eq_true rfl) ?_
  intro p e s m args below meth c ls H cx hin hr hlocks hw hl
  have cx : nc_C p s m args c cX8_init 1 RX8 G := cx
  have hin : meth.name = "<init>" := hin
  have hl : lv_has ls 1 [(0, .ref (K0.1 + 0))] := hl
  have hx := cx.1
  have hb := cx.2.1
  refine lv_aload_n hx hb dX8_init_0 rfl (lv_at hl 0 rfl) ?_
  refine nc_oi cx hl.1 oi_X8 wo_i wo_c ⟨Nat.le_of_ble_eq_true rfl, Nat.le_of_ble_eq_true rfl⟩ dX8_init_1 ?_
  refine lv_aload_n hx hb dX8_init_4 rfl (lv_at hl 0 rfl) ?_
  refine lv_bipush (v := 64) hx hb dX8_init_5 (by decide) ?_
  refine nt_int (N := 64) cx hw (by decide +kernel) wa_int (by decide) (by decide) (Nat.le_of_ble_eq_true rfl) ⟨Nat.le_of_ble_eq_true rfl, Nat.le_of_ble_eq_true rfl⟩ dX8_init_7 (fun H hw => ?_)
  refine nt_putF (ci := 8) (k := 0) (ty := .array .int) cx hB hw (by decide +kernel) (by decide) (by decide +kernel) rfl (by decide) rfl rfl rfl hin (by decide +kernel) rfl rfl fl_X8_9 dX8_init_9 (fun H locs hw => ?_)
  refine lv_aload_n hx hb dX8_init_12 rfl (lv_at hl 0 rfl) ?_
  refine lv_bipush (v := 6) hx hb dX8_init_13 (by decide) ?_
  refine nt_int (N := 6) cx hw (by decide +kernel) wa_int (by decide) (by decide) (Nat.le_of_ble_eq_true rfl) ⟨Nat.le_of_ble_eq_true rfl, Nat.le_of_ble_eq_true rfl⟩ dX8_init_15 (fun H hw => ?_)
  refine nt_putF (ci := 8) (k := 2) (ty := .array .int) cx hB hw (by decide +kernel) (by decide) (by decide +kernel) rfl (by decide) rfl rfl rfl hin (by decide +kernel) rfl rfl fl_X8_13 dX8_init_17 (fun H locs hw => ?_)
  refine lv_aload_n hx hb dX8_init_20 rfl (lv_at hl 0 rfl) ?_
  refine lv_bipush (v := 8) hx hb dX8_init_21 (by decide) ?_
  refine nt_int (N := 8) cx hw (by decide +kernel) wa_int (by decide) (by decide) (Nat.le_of_ble_eq_true rfl) ⟨Nat.le_of_ble_eq_true rfl, Nat.le_of_ble_eq_true rfl⟩ dX8_init_23 (fun H hw => ?_)
  refine nt_putF (ci := 8) (k := 4) (ty := .array .int) cx hB hw (by decide +kernel) (by decide) (by decide +kernel) rfl (by decide) rfl rfl rfl hin (by decide +kernel) rfl rfl fl_X8_16 dX8_init_25 (fun H locs hw => ?_)
  refine lv_aload_n hx hb dX8_init_28 rfl (lv_at hl 0 rfl) ?_
  refine lv_iconst (v := 4) hx hb dX8_init_29 (by decide) ?_
  refine pi_X8_19 cx hw (nt_is hB (o := 0) (by decide) (by decide +kernel)) dX8_init_30 (fun mi1 H locs emi1 hw => ?_)
  subst emi1
  refine lv_aload_n hx hb dX8_init_33 rfl (lv_at hl 0 rfl) ?_
  refine lv_bipush (v := 7) hx hb dX8_init_34 (by decide) ?_
  refine lv_bipush (v := 7) hx hb dX8_init_36 (by decide) ?_
  refine nt_mna (N := 7) (M := 7) cx hw hz (by decide +kernel) (by decide +kernel) (by decide +kernel) (nc_lk_fresh (by decide +kernel)) cl_X8_23 wa_int (by decide) (by decide) (by decide) (by decide) (Nat.le_of_ble_eq_true rfl) (Nat.le_of_ble_eq_true rfl) ⟨Nat.le_of_ble_eq_true rfl, Nat.le_of_ble_eq_true rfl⟩ dX8_init_38 (fun H hw => ?_)
  refine nt_putF (ci := 8) (k := 6) (ty := .array (.array .int)) cx hB hw (by decide +kernel) (by decide) (by decide +kernel) rfl (by decide) rfl rfl rfl hin (by decide +kernel) rfl rfl fl_X8_25 dX8_init_42 (fun H locs hw => ?_)
  refine lv_aload_n hx hb dX8_init_45 rfl (lv_at hl 0 rfl) ?_
  refine lv_bipush (v := 6) hx hb dX8_init_46 (by decide) ?_
  refine lv_bipush (v := 7) hx hb dX8_init_48 (by decide) ?_
  refine nt_mna (N := 6) (M := 7) cx hw hz (by decide +kernel) (by decide +kernel) (by decide +kernel) (nc_lk_fresh (by decide +kernel)) cl_X8_23 wa_int (by decide) (by decide) (by decide) (by decide) (Nat.le_of_ble_eq_true rfl) (Nat.le_of_ble_eq_true rfl) ⟨Nat.le_of_ble_eq_true rfl, Nat.le_of_ble_eq_true rfl⟩ dX8_init_50 (fun H hw => ?_)
  refine nt_putF (ci := 8) (k := 8) (ty := .array (.array .int)) cx hB hw (by decide +kernel) (by decide) (by decide +kernel) rfl (by decide) rfl rfl rfl hin (by decide +kernel) rfl rfl fl_X8_28 dX8_init_54 (fun H locs hw => ?_)
  refine lv_aload_n hx hb dX8_init_57 rfl (lv_at hl 0 rfl) ?_
  refine lv_bipush (v := 6) hx hb dX8_init_58 (by decide) ?_
  refine lv_bipush (v := 10) hx hb dX8_init_60 (by decide) ?_
  refine nt_mna (N := 6) (M := 10) cx hw hz (by decide +kernel) (by decide +kernel) (by decide +kernel) (nc_lk_fresh (by decide +kernel)) cl_X8_23 wa_int (by decide) (by decide) (by decide) (by decide) (Nat.le_of_ble_eq_true rfl) (Nat.le_of_ble_eq_true rfl) ⟨Nat.le_of_ble_eq_true rfl, Nat.le_of_ble_eq_true rfl⟩ dX8_init_62 (fun H hw => ?_)
  refine nt_putF (ci := 8) (k := 10) (ty := .array (.array .int)) cx hB hw (by decide +kernel) (by decide) (by decide +kernel) rfl (by decide) rfl rfl rfl hin (by decide +kernel) rfl rfl fl_X8_31 dX8_init_66 (fun H locs hw => ?_)
  refine lv_aload_n hx hb dX8_init_69 rfl (lv_at hl 0 rfl) ?_
  refine lv_bipush (v := 7) hx hb dX8_init_70 (by decide) ?_
  refine nt_int (N := 7) cx hw (by decide +kernel) wa_int (by decide) (by decide) (Nat.le_of_ble_eq_true rfl) ⟨Nat.le_of_ble_eq_true rfl, Nat.le_of_ble_eq_true rfl⟩ dX8_init_72 (fun H hw => ?_)
  refine nt_putF (ci := 8) (k := 15) (ty := .array .int) cx hB hw (by decide +kernel) (by decide) (by decide +kernel) rfl (by decide) rfl rfl rfl hin (by decide +kernel) rfl rfl fl_X8_34 dX8_init_74 (fun H locs hw => ?_)
  refine lv_aload_n hx hb dX8_init_77 rfl (lv_at hl 0 rfl) ?_
  refine lv_bipush (v := 7) hx hb dX8_init_78 (by decide) ?_
  refine lv_bipush (v := 7) hx hb dX8_init_80 (by decide) ?_
  refine nt_mna (N := 7) (M := 7) cx hw hz (by decide +kernel) (by decide +kernel) (by decide +kernel) (nc_lk_fresh (by decide +kernel)) cl_X8_23 wa_int (by decide) (by decide) (by decide) (by decide) (Nat.le_of_ble_eq_true rfl) (Nat.le_of_ble_eq_true rfl) ⟨Nat.le_of_ble_eq_true rfl, Nat.le_of_ble_eq_true rfl⟩ dX8_init_82 (fun H hw => ?_)
  refine nt_putF (ci := 8) (k := 18) (ty := .array (.array .int)) cx hB hw (by decide +kernel) (by decide) (by decide +kernel) rfl (by decide) rfl rfl rfl hin (by decide +kernel) rfl rfl fl_X8_37 dX8_init_86 (fun H locs hw => ?_)
  refine lv_aload_n hx hb dX8_init_89 rfl (lv_at hl 0 rfl) ?_
  refine lv_bipush (v := 6) hx hb dX8_init_90 (by decide) ?_
  refine lv_bipush (v := 7) hx hb dX8_init_92 (by decide) ?_
  refine nt_mna (N := 6) (M := 7) cx hw hz (by decide +kernel) (by decide +kernel) (by decide +kernel) (nc_lk_fresh (by decide +kernel)) cl_X8_23 wa_int (by decide) (by decide) (by decide) (by decide) (Nat.le_of_ble_eq_true rfl) (Nat.le_of_ble_eq_true rfl) ⟨Nat.le_of_ble_eq_true rfl, Nat.le_of_ble_eq_true rfl⟩ dX8_init_94 (fun H hw => ?_)
  refine nt_putF (ci := 8) (k := 19) (ty := .array (.array .int)) cx hB hw (by decide +kernel) (by decide) (by decide +kernel) rfl (by decide) rfl rfl rfl hin (by decide +kernel) rfl rfl fl_X8_40 dX8_init_98 (fun H locs hw => ?_)
  refine lv_aload_n hx hb dX8_init_101 rfl (lv_at hl 0 rfl) ?_
  refine lv_bipush (v := 6) hx hb dX8_init_102 (by decide) ?_
  refine lv_bipush (v := 7) hx hb dX8_init_104 (by decide) ?_
  refine nt_mna (N := 6) (M := 7) cx hw hz (by decide +kernel) (by decide +kernel) (by decide +kernel) (nc_lk_fresh (by decide +kernel)) cl_X8_23 wa_int (by decide) (by decide) (by decide) (by decide) (Nat.le_of_ble_eq_true rfl) (Nat.le_of_ble_eq_true rfl) ⟨Nat.le_of_ble_eq_true rfl, Nat.le_of_ble_eq_true rfl⟩ dX8_init_106 (fun H hw => ?_)
  refine nt_putF (ci := 8) (k := 20) (ty := .array (.array .int)) cx hB hw (by decide +kernel) (by decide) (by decide +kernel) rfl (by decide) rfl rfl rfl hin (by decide +kernel) rfl rfl fl_X8_43 dX8_init_110 (fun H locs hw => ?_)
  refine lv_aload_n hx hb dX8_init_113 rfl (lv_at hl 0 rfl) ?_
  refine lv_bipush (v := 6) hx hb dX8_init_114 (by decide) ?_
  refine nt_int (N := 6) cx hw (by decide +kernel) wa_int (by decide) (by decide) (Nat.le_of_ble_eq_true rfl) ⟨Nat.le_of_ble_eq_true rfl, Nat.le_of_ble_eq_true rfl⟩ dX8_init_116 (fun H hw => ?_)
  refine nt_putF (ci := 8) (k := 21) (ty := .array .int) cx hB hw (by decide +kernel) (by decide) (by decide +kernel) rfl (by decide) rfl rfl rfl hin (by decide +kernel) rfl rfl fl_X8_46 dX8_init_118 (fun H locs hw => ?_)
  refine lv_aload_n hx hb dX8_init_121 rfl (lv_at hl 0 rfl) ?_
  refine lv_bipush (v := 7) hx hb dX8_init_122 (by decide) ?_
  refine nt_int (N := 7) cx hw (by decide +kernel) wa_int (by decide) (by decide) (Nat.le_of_ble_eq_true rfl) ⟨Nat.le_of_ble_eq_true rfl, Nat.le_of_ble_eq_true rfl⟩ dX8_init_124 (fun H hw => ?_)
  refine nt_putF (ci := 8) (k := 22) (ty := .array .int) cx hB hw (by decide +kernel) (by decide) (by decide +kernel) rfl (by decide) rfl rfl rfl hin (by decide +kernel) rfl rfl fl_X8_49 dX8_init_126 (fun H locs hw => ?_)
  refine lv_aload_n hx hb dX8_init_129 rfl (lv_at hl 0 rfl) ?_
  refine lv_bipush (v := 7) hx hb dX8_init_130 (by decide) ?_
  refine nt_int (N := 7) cx hw (by decide +kernel) wa_int (by decide) (by decide) (Nat.le_of_ble_eq_true rfl) ⟨Nat.le_of_ble_eq_true rfl, Nat.le_of_ble_eq_true rfl⟩ dX8_init_132 (fun H hw => ?_)
  refine nt_putF (ci := 8) (k := 23) (ty := .array .int) cx hB hw (by decide +kernel) (by decide) (by decide +kernel) rfl (by decide) rfl rfl rfl hin (by decide +kernel) rfl rfl fl_X8_52 dX8_init_134 (fun H locs hw => ?_)
  refine lv_aload_n hx hb dX8_init_137 rfl (lv_at hl 0 rfl) ?_
  refine lv_bipush (v := 6) hx hb dX8_init_138 (by decide) ?_
  refine nt_int (N := 6) cx hw (by decide +kernel) wa_int (by decide) (by decide) (Nat.le_of_ble_eq_true rfl) ⟨Nat.le_of_ble_eq_true rfl, Nat.le_of_ble_eq_true rfl⟩ dX8_init_140 (fun H hw => ?_)
  refine nt_putF (ci := 8) (k := 24) (ty := .array .int) cx hB hw (by decide +kernel) (by decide) (by decide +kernel) rfl (by decide) rfl rfl rfl hin (by decide +kernel) rfl rfl fl_X8_55 dX8_init_142 (fun H locs hw => ?_)
  refine lv_aload_n hx hb dX8_init_145 rfl (lv_at hl 0 rfl) ?_
  refine lv_bipush (v := 6) hx hb dX8_init_146 (by decide) ?_
  refine nt_int (N := 6) cx hw (by decide +kernel) wa_int (by decide) (by decide) (Nat.le_of_ble_eq_true rfl) ⟨Nat.le_of_ble_eq_true rfl, Nat.le_of_ble_eq_true rfl⟩ dX8_init_148 (fun H hw => ?_)
  refine nt_putF (ci := 8) (k := 25) (ty := .array .int) cx hB hw (by decide +kernel) (by decide) (by decide +kernel) rfl (by decide) rfl rfl rfl hin (by decide +kernel) rfl rfl fl_X8_58 dX8_init_150 (fun H locs hw => ?_)
  exact nc_vretK cx hw hr hlocks ⟨rfl, rfl⟩ ⟨Nat.le_of_ble_eq_true rfl, Nat.le_of_ble_eq_true rfl⟩ dX8_init_153
set_option maxRecDepth 100000 in
set_option maxHeartbeats 4000000 in
theorem lay_N {G : nc_G} {K0 : nc_K} (hB : G.2.2.1 ≤ K0.1) : nc_LNC G (nc_kt nc_SN nc_RN K0 82 82) (K0.1 + 0) := ⟨(nt_is hB (o := 0) (by decide) (by decide +kernel)), (nt_mr (o := 0) (k := 0) (v := 1) (by decide +kernel)), ⟨(nt_is hB (o := 1) (by decide) (by decide +kernel)), (nt_mr (o := 1) (k := 0) (v := 2) (by decide +kernel)), (nt_is hB (o := 2) (by decide) (by decide +kernel)), (nc_all6 ⟨(nt_mr (o := 2) (k := 0) (v := 6) (by decide +kernel)), (nt_is hB (o := 6) (by decide) (by decide +kernel))⟩ ⟨(nt_mr (o := 2) (k := 1) (v := 7) (by decide +kernel)), (nt_is hB (o := 7) (by decide) (by decide +kernel))⟩ ⟨(nt_mr (o := 2) (k := 2) (v := 8) (by decide +kernel)), (nt_is hB (o := 8) (by decide) (by decide +kernel))⟩ ⟨(nt_mr (o := 2) (k := 3) (v := 9) (by decide +kernel)), (nt_is hB (o := 9) (by decide) (by decide +kernel))⟩ ⟨(nt_mr (o := 2) (k := 4) (v := 10) (by decide +kernel)), (nt_is hB (o := 10) (by decide) (by decide +kernel))⟩ ⟨(nt_mr (o := 2) (k := 5) (v := 11) (by decide +kernel)), (nt_is hB (o := 11) (by decide) (by decide +kernel))⟩), (nt_mr (o := 1) (k := 1) (v := 3) (by decide +kernel)), (nt_is hB (o := 3) (by decide) (by decide +kernel)), (nc_all6 ⟨(nt_mr (o := 3) (k := 0) (v := 12) (by decide +kernel)), (nt_is hB (o := 12) (by decide) (by decide +kernel))⟩ ⟨(nt_mr (o := 3) (k := 1) (v := 13) (by decide +kernel)), (nt_is hB (o := 13) (by decide) (by decide +kernel))⟩ ⟨(nt_mr (o := 3) (k := 2) (v := 14) (by decide +kernel)), (nt_is hB (o := 14) (by decide) (by decide +kernel))⟩ ⟨(nt_mr (o := 3) (k := 3) (v := 15) (by decide +kernel)), (nt_is hB (o := 15) (by decide) (by decide +kernel))⟩ ⟨(nt_mr (o := 3) (k := 4) (v := 16) (by decide +kernel)), (nt_is hB (o := 16) (by decide) (by decide +kernel))⟩ ⟨(nt_mr (o := 3) (k := 5) (v := 17) (by decide +kernel)), (nt_is hB (o := 17) (by decide) (by decide +kernel))⟩), (nt_mr (o := 1) (k := 2) (v := 4) (by decide +kernel)), (nt_is hB (o := 4) (by decide) (by decide +kernel)), (nt_mr (o := 1) (k := 3) (v := 5) (by decide +kernel)), (nt_is hB (o := 5) (by decide) (by decide +kernel))⟩, (nt_mr (o := 0) (k := 1) (v := 18) (by decide +kernel)), ⟨(nt_is hB (o := 18) (by decide) (by decide +kernel)), (nt_mr (o := 18) (k := 0) (v := 19) (by decide +kernel)), (nt_is hB (o := 19) (by decide) (by decide +kernel)), (nc_all6 ⟨(nt_mr (o := 19) (k := 0) (v := 23) (by decide +kernel)), (nt_is hB (o := 23) (by decide) (by decide +kernel))⟩ ⟨(nt_mr (o := 19) (k := 1) (v := 24) (by decide +kernel)), (nt_is hB (o := 24) (by decide) (by decide +kernel))⟩ ⟨(nt_mr (o := 19) (k := 2) (v := 25) (by decide +kernel)), (nt_is hB (o := 25) (by decide) (by decide +kernel))⟩ ⟨(nt_mr (o := 19) (k := 3) (v := 26) (by decide +kernel)), (nt_is hB (o := 26) (by decide) (by decide +kernel))⟩ ⟨(nt_mr (o := 19) (k := 4) (v := 27) (by decide +kernel)), (nt_is hB (o := 27) (by decide) (by decide +kernel))⟩ ⟨(nt_mr (o := 19) (k := 5) (v := 28) (by decide +kernel)), (nt_is hB (o := 28) (by decide) (by decide +kernel))⟩), (nt_mr (o := 18) (k := 1) (v := 20) (by decide +kernel)), (nt_is hB (o := 20) (by decide) (by decide +kernel)), (nc_all6 ⟨(nt_mr (o := 20) (k := 0) (v := 29) (by decide +kernel)), (nt_is hB (o := 29) (by decide) (by decide +kernel))⟩ ⟨(nt_mr (o := 20) (k := 1) (v := 30) (by decide +kernel)), (nt_is hB (o := 30) (by decide) (by decide +kernel))⟩ ⟨(nt_mr (o := 20) (k := 2) (v := 31) (by decide +kernel)), (nt_is hB (o := 31) (by decide) (by decide +kernel))⟩ ⟨(nt_mr (o := 20) (k := 3) (v := 32) (by decide +kernel)), (nt_is hB (o := 32) (by decide) (by decide +kernel))⟩ ⟨(nt_mr (o := 20) (k := 4) (v := 33) (by decide +kernel)), (nt_is hB (o := 33) (by decide) (by decide +kernel))⟩ ⟨(nt_mr (o := 20) (k := 5) (v := 34) (by decide +kernel)), (nt_is hB (o := 34) (by decide) (by decide +kernel))⟩), (nt_mr (o := 18) (k := 2) (v := 21) (by decide +kernel)), (nt_is hB (o := 21) (by decide) (by decide +kernel)), (nt_mr (o := 18) (k := 3) (v := 22) (by decide +kernel)), (nt_is hB (o := 22) (by decide) (by decide +kernel))⟩, (nt_mr (o := 0) (k := 2) (v := 35) (by decide +kernel)), ⟨(nt_is hB (o := 35) (by decide) (by decide +kernel)), (nt_mr (o := 35) (k := 0) (v := 36) (by decide +kernel)), (nt_is hB (o := 36) (by decide) (by decide +kernel)), (nc_all6 ⟨(nt_mr (o := 36) (k := 0) (v := 40) (by decide +kernel)), (nt_is hB (o := 40) (by decide) (by decide +kernel))⟩ ⟨(nt_mr (o := 36) (k := 1) (v := 41) (by decide +kernel)), (nt_is hB (o := 41) (by decide) (by decide +kernel))⟩ ⟨(nt_mr (o := 36) (k := 2) (v := 42) (by decide +kernel)), (nt_is hB (o := 42) (by decide) (by decide +kernel))⟩ ⟨(nt_mr (o := 36) (k := 3) (v := 43) (by decide +kernel)), (nt_is hB (o := 43) (by decide) (by decide +kernel))⟩ ⟨(nt_mr (o := 36) (k := 4) (v := 44) (by decide +kernel)), (nt_is hB (o := 44) (by decide) (by decide +kernel))⟩ ⟨(nt_mr (o := 36) (k := 5) (v := 45) (by decide +kernel)), (nt_is hB (o := 45) (by decide) (by decide +kernel))⟩), (nt_mr (o := 35) (k := 1) (v := 37) (by decide +kernel)), (nt_is hB (o := 37) (by decide) (by decide +kernel)), (nc_all6 ⟨(nt_mr (o := 37) (k := 0) (v := 46) (by decide +kernel)), (nt_is hB (o := 46) (by decide) (by decide +kernel))⟩ ⟨(nt_mr (o := 37) (k := 1) (v := 47) (by decide +kernel)), (nt_is hB (o := 47) (by decide) (by decide +kernel))⟩ ⟨(nt_mr (o := 37) (k := 2) (v := 48) (by decide +kernel)), (nt_is hB (o := 48) (by decide) (by decide +kernel))⟩ ⟨(nt_mr (o := 37) (k := 3) (v := 49) (by decide +kernel)), (nt_is hB (o := 49) (by decide) (by decide +kernel))⟩ ⟨(nt_mr (o := 37) (k := 4) (v := 50) (by decide +kernel)), (nt_is hB (o := 50) (by decide) (by decide +kernel))⟩ ⟨(nt_mr (o := 37) (k := 5) (v := 51) (by decide +kernel)), (nt_is hB (o := 51) (by decide) (by decide +kernel))⟩), (nt_mr (o := 35) (k := 2) (v := 38) (by decide +kernel)), (nt_is hB (o := 38) (by decide) (by decide +kernel)), (nt_mr (o := 35) (k := 3) (v := 39) (by decide +kernel)), (nt_is hB (o := 39) (by decide) (by decide +kernel))⟩, (nt_mr (o := 0) (k := 3) (v := 52) (by decide +kernel)), ⟨(nt_is hB (o := 52) (by decide) (by decide +kernel)), (nt_mr (o := 52) (k := 0) (v := 53) (by decide +kernel)), (nt_is hB (o := 53) (by decide) (by decide +kernel)), (nt_mr (o := 52) (k := 1) (v := 54) (by decide +kernel)), (nt_is hB (o := 54) (by decide) (by decide +kernel))⟩, (nt_mr (o := 0) (k := 4) (v := 55) (by decide +kernel)), (nt_is hB (o := 55) (by decide) (by decide +kernel)), (nt_mr (o := 55) (k := 0) (v := 1) (by decide +kernel)), (nt_mr (o := 55) (k := 1) (v := 56) (by decide +kernel)), (nt_is hB (o := 56) (by decide) (by decide +kernel)), (nc_all6 ⟨(nt_mr (o := 56) (k := 0) (v := 59) (by decide +kernel)), ⟨(nt_is hB (o := 59) (by decide) (by decide +kernel)), (nt_mr (o := 59) (k := 0) (v := 60) (by decide +kernel)), (nt_is hB (o := 60) (by decide) (by decide +kernel)), (nt_mr (o := 59) (k := 1) (v := 61) (by decide +kernel)), (nt_is hB (o := 61) (by decide) (by decide +kernel))⟩⟩ ⟨(nt_mr (o := 56) (k := 1) (v := 62) (by decide +kernel)), ⟨(nt_is hB (o := 62) (by decide) (by decide +kernel)), (nt_mr (o := 62) (k := 0) (v := 63) (by decide +kernel)), (nt_is hB (o := 63) (by decide) (by decide +kernel)), (nt_mr (o := 62) (k := 1) (v := 64) (by decide +kernel)), (nt_is hB (o := 64) (by decide) (by decide +kernel))⟩⟩ ⟨(nt_mr (o := 56) (k := 2) (v := 65) (by decide +kernel)), ⟨(nt_is hB (o := 65) (by decide) (by decide +kernel)), (nt_mr (o := 65) (k := 0) (v := 66) (by decide +kernel)), (nt_is hB (o := 66) (by decide) (by decide +kernel)), (nt_mr (o := 65) (k := 1) (v := 67) (by decide +kernel)), (nt_is hB (o := 67) (by decide) (by decide +kernel))⟩⟩ ⟨(nt_mr (o := 56) (k := 3) (v := 68) (by decide +kernel)), ⟨(nt_is hB (o := 68) (by decide) (by decide +kernel)), (nt_mr (o := 68) (k := 0) (v := 69) (by decide +kernel)), (nt_is hB (o := 69) (by decide) (by decide +kernel)), (nt_mr (o := 68) (k := 1) (v := 70) (by decide +kernel)), (nt_is hB (o := 70) (by decide) (by decide +kernel))⟩⟩ ⟨(nt_mr (o := 56) (k := 4) (v := 71) (by decide +kernel)), ⟨(nt_is hB (o := 71) (by decide) (by decide +kernel)), (nt_mr (o := 71) (k := 0) (v := 72) (by decide +kernel)), (nt_is hB (o := 72) (by decide) (by decide +kernel)), (nt_mr (o := 71) (k := 1) (v := 73) (by decide +kernel)), (nt_is hB (o := 73) (by decide) (by decide +kernel))⟩⟩ ⟨(nt_mr (o := 56) (k := 5) (v := 74) (by decide +kernel)), ⟨(nt_is hB (o := 74) (by decide) (by decide +kernel)), (nt_mr (o := 74) (k := 0) (v := 75) (by decide +kernel)), (nt_is hB (o := 75) (by decide) (by decide +kernel)), (nt_mr (o := 74) (k := 1) (v := 76) (by decide +kernel)), (nt_is hB (o := 76) (by decide) (by decide +kernel))⟩⟩), (nt_mr (o := 55) (k := 2) (v := 57) (by decide +kernel)), (nt_is hB (o := 57) (by decide) (by decide +kernel)), (nt_mr (o := 55) (k := 3) (v := 58) (by decide +kernel)), (nt_is hB (o := 58) (by decide) (by decide +kernel)), (nt_mr (o := 0) (k := 5) (v := 77) (by decide +kernel)), ⟨(nt_is hB (o := 77) (by decide) (by decide +kernel)), (nt_mr (o := 77) (k := 0) (v := 78) (by decide +kernel)), (nt_is hB (o := 78) (by decide) (by decide +kernel)), (nt_mr (o := 77) (k := 1) (v := 79) (by decide +kernel)), (nt_is hB (o := 79) (by decide) (by decide +kernel))⟩, (nt_mr (o := 0) (k := 6) (v := 80) (by decide +kernel)), (nt_is hB (o := 80) (by decide) (by decide +kernel)), (nt_mr (o := 0) (k := 7) (v := 81) (by decide +kernel)), (nt_is hB (o := 81) (by decide) (by decide +kernel))⟩
set_option maxRecDepth 100000 in
set_option maxHeartbeats 4000000 in
theorem lay_M {G : nc_G} {K0 : nc_K} (hB : G.2.2.1 ≤ K0.1) : nc_LModel G (nc_kt nc_SM nc_RM K0 54 53) (K0.1 + 0) := ⟨(nt_is hB (o := 0) (by decide) (by decide +kernel)), (nt_mr (o := 0) (k := 0) (v := 1) (by decide +kernel)), (nt_is hB (o := 1) (by decide) (by decide +kernel)), (nt_mr (o := 0) (k := 2) (v := 2) (by decide +kernel)), (nt_is hB (o := 2) (by decide) (by decide +kernel)), (nt_mr (o := 0) (k := 4) (v := 3) (by decide +kernel)), (nt_is hB (o := 3) (by decide) (by decide +kernel)), (nt_mr (o := 0) (k := 6) (v := 4) (by decide +kernel)), ⟨(nt_is hB (o := 4) (by decide) (by decide +kernel)), nc_all7 ⟨(nt_mr (o := 4) (k := 0) (v := 5) (by decide +kernel)), (nt_is hB (o := 5) (by decide) (by decide +kernel))⟩ ⟨(nt_mr (o := 4) (k := 1) (v := 6) (by decide +kernel)), (nt_is hB (o := 6) (by decide) (by decide +kernel))⟩ ⟨(nt_mr (o := 4) (k := 2) (v := 7) (by decide +kernel)), (nt_is hB (o := 7) (by decide) (by decide +kernel))⟩ ⟨(nt_mr (o := 4) (k := 3) (v := 8) (by decide +kernel)), (nt_is hB (o := 8) (by decide) (by decide +kernel))⟩ ⟨(nt_mr (o := 4) (k := 4) (v := 9) (by decide +kernel)), (nt_is hB (o := 9) (by decide) (by decide +kernel))⟩ ⟨(nt_mr (o := 4) (k := 5) (v := 10) (by decide +kernel)), (nt_is hB (o := 10) (by decide) (by decide +kernel))⟩ ⟨(nt_mr (o := 4) (k := 6) (v := 11) (by decide +kernel)), (nt_is hB (o := 11) (by decide) (by decide +kernel))⟩⟩, (nt_mr (o := 0) (k := 8) (v := 12) (by decide +kernel)), ⟨(nt_is hB (o := 12) (by decide) (by decide +kernel)), nc_all6 ⟨(nt_mr (o := 12) (k := 0) (v := 13) (by decide +kernel)), (nt_is hB (o := 13) (by decide) (by decide +kernel))⟩ ⟨(nt_mr (o := 12) (k := 1) (v := 14) (by decide +kernel)), (nt_is hB (o := 14) (by decide) (by decide +kernel))⟩ ⟨(nt_mr (o := 12) (k := 2) (v := 15) (by decide +kernel)), (nt_is hB (o := 15) (by decide) (by decide +kernel))⟩ ⟨(nt_mr (o := 12) (k := 3) (v := 16) (by decide +kernel)), (nt_is hB (o := 16) (by decide) (by decide +kernel))⟩ ⟨(nt_mr (o := 12) (k := 4) (v := 17) (by decide +kernel)), (nt_is hB (o := 17) (by decide) (by decide +kernel))⟩ ⟨(nt_mr (o := 12) (k := 5) (v := 18) (by decide +kernel)), (nt_is hB (o := 18) (by decide) (by decide +kernel))⟩⟩, (nt_mr (o := 0) (k := 10) (v := 19) (by decide +kernel)), ⟨(nt_is hB (o := 19) (by decide) (by decide +kernel)), nc_all6 ⟨(nt_mr (o := 19) (k := 0) (v := 20) (by decide +kernel)), (nt_is hB (o := 20) (by decide) (by decide +kernel))⟩ ⟨(nt_mr (o := 19) (k := 1) (v := 21) (by decide +kernel)), (nt_is hB (o := 21) (by decide) (by decide +kernel))⟩ ⟨(nt_mr (o := 19) (k := 2) (v := 22) (by decide +kernel)), (nt_is hB (o := 22) (by decide) (by decide +kernel))⟩ ⟨(nt_mr (o := 19) (k := 3) (v := 23) (by decide +kernel)), (nt_is hB (o := 23) (by decide) (by decide +kernel))⟩ ⟨(nt_mr (o := 19) (k := 4) (v := 24) (by decide +kernel)), (nt_is hB (o := 24) (by decide) (by decide +kernel))⟩ ⟨(nt_mr (o := 19) (k := 5) (v := 25) (by decide +kernel)), (nt_is hB (o := 25) (by decide) (by decide +kernel))⟩⟩, (nt_mr (o := 0) (k := 15) (v := 26) (by decide +kernel)), (nt_is hB (o := 26) (by decide) (by decide +kernel)), (nt_mr (o := 0) (k := 18) (v := 27) (by decide +kernel)), ⟨(nt_is hB (o := 27) (by decide) (by decide +kernel)), nc_all7 ⟨(nt_mr (o := 27) (k := 0) (v := 28) (by decide +kernel)), (nt_is hB (o := 28) (by decide) (by decide +kernel))⟩ ⟨(nt_mr (o := 27) (k := 1) (v := 29) (by decide +kernel)), (nt_is hB (o := 29) (by decide) (by decide +kernel))⟩ ⟨(nt_mr (o := 27) (k := 2) (v := 30) (by decide +kernel)), (nt_is hB (o := 30) (by decide) (by decide +kernel))⟩ ⟨(nt_mr (o := 27) (k := 3) (v := 31) (by decide +kernel)), (nt_is hB (o := 31) (by decide) (by decide +kernel))⟩ ⟨(nt_mr (o := 27) (k := 4) (v := 32) (by decide +kernel)), (nt_is hB (o := 32) (by decide) (by decide +kernel))⟩ ⟨(nt_mr (o := 27) (k := 5) (v := 33) (by decide +kernel)), (nt_is hB (o := 33) (by decide) (by decide +kernel))⟩ ⟨(nt_mr (o := 27) (k := 6) (v := 34) (by decide +kernel)), (nt_is hB (o := 34) (by decide) (by decide +kernel))⟩⟩, (nt_mr (o := 0) (k := 19) (v := 35) (by decide +kernel)), ⟨(nt_is hB (o := 35) (by decide) (by decide +kernel)), nc_all6 ⟨(nt_mr (o := 35) (k := 0) (v := 36) (by decide +kernel)), (nt_is hB (o := 36) (by decide) (by decide +kernel))⟩ ⟨(nt_mr (o := 35) (k := 1) (v := 37) (by decide +kernel)), (nt_is hB (o := 37) (by decide) (by decide +kernel))⟩ ⟨(nt_mr (o := 35) (k := 2) (v := 38) (by decide +kernel)), (nt_is hB (o := 38) (by decide) (by decide +kernel))⟩ ⟨(nt_mr (o := 35) (k := 3) (v := 39) (by decide +kernel)), (nt_is hB (o := 39) (by decide) (by decide +kernel))⟩ ⟨(nt_mr (o := 35) (k := 4) (v := 40) (by decide +kernel)), (nt_is hB (o := 40) (by decide) (by decide +kernel))⟩ ⟨(nt_mr (o := 35) (k := 5) (v := 41) (by decide +kernel)), (nt_is hB (o := 41) (by decide) (by decide +kernel))⟩⟩, (nt_mr (o := 0) (k := 20) (v := 42) (by decide +kernel)), ⟨(nt_is hB (o := 42) (by decide) (by decide +kernel)), nc_all6 ⟨(nt_mr (o := 42) (k := 0) (v := 43) (by decide +kernel)), (nt_is hB (o := 43) (by decide) (by decide +kernel))⟩ ⟨(nt_mr (o := 42) (k := 1) (v := 44) (by decide +kernel)), (nt_is hB (o := 44) (by decide) (by decide +kernel))⟩ ⟨(nt_mr (o := 42) (k := 2) (v := 45) (by decide +kernel)), (nt_is hB (o := 45) (by decide) (by decide +kernel))⟩ ⟨(nt_mr (o := 42) (k := 3) (v := 46) (by decide +kernel)), (nt_is hB (o := 46) (by decide) (by decide +kernel))⟩ ⟨(nt_mr (o := 42) (k := 4) (v := 47) (by decide +kernel)), (nt_is hB (o := 47) (by decide) (by decide +kernel))⟩ ⟨(nt_mr (o := 42) (k := 5) (v := 48) (by decide +kernel)), (nt_is hB (o := 48) (by decide) (by decide +kernel))⟩⟩, (nt_mr (o := 0) (k := 21) (v := 49) (by decide +kernel)), (nt_is hB (o := 49) (by decide) (by decide +kernel)), (nt_mr (o := 0) (k := 22) (v := 50) (by decide +kernel)), (nt_is hB (o := 50) (by decide) (by decide +kernel)), (nt_mr (o := 0) (k := 23) (v := 51) (by decide +kernel)), (nt_is hB (o := 51) (by decide) (by decide +kernel)), (nt_mr (o := 0) (k := 24) (v := 52) (by decide +kernel)), (nt_is hB (o := 52) (by decide) (by decide +kernel)), (nt_mr (o := 0) (k := 25) (v := 53) (by decide +kernel)), (nt_is hB (o := 53) (by decide) (by decide +kernel))⟩
