-- THE LAW: its loop
set_option maxRecDepth 100000 in
set_option maxHeartbeats 4000000 in
theorem law_loop {p : Program} {e : Env} {s : State} {m : MethodId} {below : List Frame} {meth : Method} {c : Code} (l : Launch) {b L : Nat} {xs : Nat → Int32} {G : nc_G} {X M : Nat} (hL : L ≤ 256) (C0 : lw_At p s m meth c b L xs) (cx : nc_C p s m #[Value.ref b] c cL_law 4 RL G) (hG : G.2.2.1 = s.heap.size ∧ G.2.2.2.1 = s.heap) :
    ∀ (t n : Nat), L < 4 * n + 4 * t + 4 → n ≤ 64 → ∀ (K : nc_K) (mi : nc_Mem) (H : Heap) (locs : List Loc) (ls : Array Slot) (cells slots : Nat), cells ≤ 1000 + 54 * n → slots ≤ 5000 + 467 * n → nc_J G K X M → nc_INV n X M (K.2.2 M 12) mi → nc_W G K mi H locs → lv_has ls 4 [(0, .ref b), (1, .ref X), (2, .ref M), (3, .int (nI (4 * n)))] → W p l e room_1 s m #[Value.ref b] below meth c H locs cells slots (lw_Z below #[Value.ref b] s) (F0 m 18 ls []) := by
  obtain ⟨hx, hb, hr, hml, hown, hts, hX, hbl, hlocks, hgv⟩ := C0
  have hbA : ¬ (fun q : Nat => s.heap.size ≤ q) b := Nat.not_le.mpr hbl
  intro t
  induction t with
  | zero =>
    intro n h1 h2 K mi H locs ls cells slots hc hs hJ inv hw hl
    refine lv_iload_n hx hb dL_law_18 rfl (lv_at hl 3 rfl) ?_
    refine lv_aload_n hx hb dL_law_19 rfl (lv_at hl 0 rfl) ?_
    refine va_slen hx hb hX hbl hbA (nc_S_of hG hw) dL_law_20 ?_
    refine lv_iconst (v := 4) hx hb dL_law_21 (by decide) ?_
    refine lv_isub hx hb dL_law_22 ?_
    refine lv_icmp_gt (tgt := 961) hx hb dL_law_23 (by decide) (fun _ => ?_) (fun c1 => absurd ?_ c1)
    · refine lv_iconst (v := 1) hx hb dL_law_961 (by decide) ?_
      refine va_forget (fun q hq => (nc_S_of hG hw).2.2 q hq) ?_
      refine W.widen (k := 600000) (n := 7302250) (by omega) (by omega) ?_
      exact lw_ret hx hb hr hlocks dL_law_962
    · rw [show Int32.ofNat L = iI (L : Int) from iI_nat L, show (4 : Int32) = iI 4 by decide, iI_sub, iI_nat]
      exact (iI_lt (by omega) (by omega)).mpr (by omega)
  | succ t ih =>
    intro n h1 h2 K mi H locs ls cells slots hc hs hJ inv hw hl
    refine lv_iload_n hx hb dL_law_18 rfl (lv_at hl 3 rfl) ?_
    refine lv_aload_n hx hb dL_law_19 rfl (lv_at hl 0 rfl) ?_
    refine va_slen hx hb hX hbl hbA (nc_S_of hG hw) dL_law_20 ?_
    refine lv_iconst (v := 4) hx hb dL_law_21 (by decide) ?_
    refine lv_isub hx hb dL_law_22 ?_
    refine lv_icmp_gt (tgt := 961) hx hb dL_law_23 (by decide) (fun _ => ?_) (fun c1 => ?_)
    · refine lv_iconst (v := 1) hx hb dL_law_961 (by decide) ?_
      refine va_forget (fun q hq => (nc_S_of hG hw).2.2 q hq) ?_
      refine W.widen (k := 600000) (n := 7302250) (by omega) (by omega) ?_
      exact lw_ret hx hb hr hlocks dL_law_962
    · have hlt : 4 * n + 4 ≤ L := by
        by_cases z : 4 * n + 4 ≤ L
        · exact z
        · refine absurd ?_ c1
          rw [show Int32.ofNat L = iI (L : Int) from iI_nat L, show (4 : Int32) = iI 4 by decide, iI_sub, iI_nat]
          exact (iI_lt (by omega) (by omega)).mpr (by omega)
      have hn9 : n ≤ 1000 := by omega
      have in0 : vp_in (nI (4 * n)) L := vp_in_nI (by omega) (by omega)
      have in1 : vp_in (nI (4 * n) + 1) L := by rw [nI_1]; exact vp_in_nI (by omega) (by omega)
      have in2 : vp_in (nI (4 * n) + 2) L := by rw [show (2 : Int32) = nI 2 from rfl, nI_add]; exact vp_in_nI (by omega) (by omega)
      have in3 : vp_in (nI (4 * n) + 3) L := by rw [show (3 : Int32) = nI 3 from rfl, nI_add]; exact vp_in_nI (by omega) (by omega)
      have hcs : cells + 54 ≤ room_1.cells ∧ slots + 467 ≤ room_1.slots := ⟨show cells + 54 ≤ 600000 by omega, show slots + 467 ≤ 7302250 by omega⟩
      have kk : nc_Kk p l e s m b below meth c (lw_Z below #[Value.ref b] s) G X M n (nI (4 * n)) cells slots := fun K' m2 H1 locs1 c1 s1 ls1 hJ' inv' hw' hc1 hs1 hl1 => by
        refine lv_iinc (v := nI (4 * (n + 1))) (lv' := [(3, .int (nI (4 * (n + 1)))), (0, .ref b), (1, .ref X), (2, .ref M)]) hx hb dL_law_955 hl1 (k := 3) rfl (by rw [show Int32.ofInt 4 = nI 4 by decide, nI_add]; rfl) (by decide) rfl (fun ls hl => ?_)
        refine lv_goto (tgt := 18) hx hb dL_law_958 (by decide) ?_
        exact ih (n + 1) (by omega) (by omega) K' m2 H1 locs1 ls c1 s1 (by omega) (by omega) hJ' inv' hw' (lv_sub hl [1, 2, 3, 0] rfl)
      refine lv_aload_n hx hb dL_law_26 rfl (lv_at hl 0 rfl) ?_
      refine lv_iload_n hx hb dL_law_27 rfl (lv_at hl 3 rfl) ?_
      refine va_sld hx hb hX hbl hbA (nc_S_of hG hw) in0 dL_law_28 ?_
      refine lv_bipush (v := 31) hx hb dL_law_29 (by decide) ?_
      refine lv_iand hx hb dL_law_31 ?_
      obtain ⟨j, hj, ej⟩ := pk_andE (xs (nI (4 * n)).toNatClampNeg) (m := 31) 5 (by decide)
      rw [ej]
      rcases (show j = 0 ∨ j = 1 ∨ j = 2 ∨ j = 3 ∨ j = 4 ∨ j = 5 ∨ j = 6 ∨ j = 7 ∨ j = 8 ∨ j = 9 ∨ j = 10 ∨ j = 11 ∨ j = 12 ∨ j = 13 ∨ j = 14 ∨ j = 15 ∨ j = 16 ∨ j = 17 ∨ j = 18 ∨ j = 19 ∨ j = 20 ∨ j = 21 ∨ j = 22 ∨ j = 23 ∨ j = 24 ∨ j = 25 ∨ j = 26 ∨ j = 27 ∨ j = 28 ∨ j = 29 ∨ j = 30 ∨ j = 31 by omega) with rfl | rfl | rfl | rfl | rfl | rfl | rfl | rfl | rfl | rfl | rfl | rfl | rfl | rfl | rfl | rfl | rfl | rfl | rfl | rfl | rfl | rfl | rfl | rfl | rfl | rfl | rfl | rfl | rfl | rfl | rfl | rfl
      · refine lv_tableIn (tgt := 172) (off := 140) hx hb dL_law_32 (by decide) (by decide) (by decide +kernel) (by decide) ?_
        exact lc_0 l cx hX hbl hG hJ inv hn9 hw hl in1 in2 in3 hcs kk
      · refine lv_tableIn (tgt := 195) (off := 163) hx hb dL_law_32 (by decide) (by decide) (by decide +kernel) (by decide) ?_
        exact lc_1 l cx hX hbl hG hJ inv hn9 hw hl in1 in2 in3 hcs kk
      · refine lv_tableIn (tgt := 208) (off := 176) hx hb dL_law_32 (by decide) (by decide) (by decide +kernel) (by decide) ?_
        exact lc_2 l cx hX hbl hG hJ inv hn9 hw hl in1 in2 in3 hcs kk
      · refine lv_tableIn (tgt := 241) (off := 209) hx hb dL_law_32 (by decide) (by decide) (by decide +kernel) (by decide) ?_
        exact lc_3 l cx hX hbl hG hJ inv hn9 hw hl in1 in2 in3 hcs kk
      · refine lv_tableIn (tgt := 274) (off := 242) hx hb dL_law_32 (by decide) (by decide) (by decide +kernel) (by decide) ?_
        exact lc_4 l cx hX hbl hG hJ inv hn9 hw hl in1 in2 in3 hcs kk
      · refine lv_tableIn (tgt := 307) (off := 275) hx hb dL_law_32 (by decide) (by decide) (by decide +kernel) (by decide) ?_
        exact lc_5 l cx hX hbl hG hJ inv hn9 hw hl in1 in2 in3 hcs kk
      · refine lv_tableIn (tgt := 330) (off := 298) hx hb dL_law_32 (by decide) (by decide) (by decide +kernel) (by decide) ?_
        exact lc_6 l cx hX hbl hG hJ inv hn9 hw hl in1 in2 in3 hcs kk
      · refine lv_tableIn (tgt := 373) (off := 341) hx hb dL_law_32 (by decide) (by decide) (by decide +kernel) (by decide) ?_
        exact lc_7 l cx hX hbl hG hJ inv hn9 hw hl in1 in2 in3 hcs kk
      · refine lv_tableIn (tgt := 406) (off := 374) hx hb dL_law_32 (by decide) (by decide) (by decide +kernel) (by decide) ?_
        exact lc_8 l cx hX hbl hG hJ inv hn9 hw hl in1 in2 in3 hcs kk
      · refine lv_tableIn (tgt := 439) (off := 407) hx hb dL_law_32 (by decide) (by decide) (by decide +kernel) (by decide) ?_
        exact lc_9 l cx hX hbl hG hJ inv hn9 hw hl in1 in2 in3 hcs kk
      · refine lv_tableIn (tgt := 472) (off := 440) hx hb dL_law_32 (by decide) (by decide) (by decide +kernel) (by decide) ?_
        exact lc_10 l cx hX hbl hG hJ inv hn9 hw hl in1 in2 in3 hcs kk
      · refine lv_tableIn (tgt := 515) (off := 483) hx hb dL_law_32 (by decide) (by decide) (by decide +kernel) (by decide) ?_
        exact lc_11 l cx hX hbl hG hJ inv hn9 hw hl in1 in2 in3 hcs kk
      · refine lv_tableIn (tgt := 548) (off := 516) hx hb dL_law_32 (by decide) (by decide) (by decide +kernel) (by decide) ?_
        exact lc_12 l cx hX hbl hG hJ inv hn9 hw hl in1 in2 in3 hcs kk
      · refine lv_tableIn (tgt := 581) (off := 549) hx hb dL_law_32 (by decide) (by decide) (by decide +kernel) (by decide) ?_
        exact lc_13 l cx hX hbl hG hJ inv hn9 hw hl in1 in2 in3 hcs kk
      · refine lv_tableIn (tgt := 594) (off := 562) hx hb dL_law_32 (by decide) (by decide) (by decide +kernel) (by decide) ?_
        exact lc_14 l cx hX hbl hG hJ inv hn9 hw hl in1 in2 in3 hcs kk
      · refine lv_tableIn (tgt := 617) (off := 585) hx hb dL_law_32 (by decide) (by decide) (by decide +kernel) (by decide) ?_
        exact lc_15 l cx hX hbl hG hJ inv hn9 hw hl in1 in2 in3 hcs kk
      · refine lv_tableIn (tgt := 650) (off := 618) hx hb dL_law_32 (by decide) (by decide) (by decide +kernel) (by decide) ?_
        exact lc_16 l cx hX hbl hG hJ inv hn9 hw hl in1 in2 in3 hcs kk
      · refine lv_tableIn (tgt := 673) (off := 641) hx hb dL_law_32 (by decide) (by decide) (by decide +kernel) (by decide) ?_
        exact lc_17 l cx hX hbl hG hJ inv hn9 hw hl in1 in2 in3 hcs kk
      · refine lv_tableIn (tgt := 686) (off := 654) hx hb dL_law_32 (by decide) (by decide) (by decide +kernel) (by decide) ?_
        exact lc_18 l cx hX hbl hG hJ inv hn9 hw hl in1 in2 in3 hcs kk
      · refine lv_tableIn (tgt := 709) (off := 677) hx hb dL_law_32 (by decide) (by decide) (by decide +kernel) (by decide) ?_
        exact lc_19 l cx hX hbl hG hJ inv hn9 hw hl in1 in2 in3 hcs kk
      · refine lv_tableIn (tgt := 752) (off := 720) hx hb dL_law_32 (by decide) (by decide) (by decide +kernel) (by decide) ?_
        exact lc_20 l cx hX hbl hG hJ inv hn9 hw hl in1 in2 in3 hcs kk
      · refine lv_tableIn (tgt := 775) (off := 743) hx hb dL_law_32 (by decide) (by decide) (by decide +kernel) (by decide) ?_
        exact lc_21 l cx hX hbl hG hJ inv hn9 hw hl in1 in2 in3 hcs kk
      · refine lv_tableIn (tgt := 798) (off := 766) hx hb dL_law_32 (by decide) (by decide) (by decide +kernel) (by decide) ?_
        exact lc_22 l cx hX hbl hG hJ inv hn9 hw hl in1 in2 in3 hcs kk
      · refine lv_tableIn (tgt := 811) (off := 779) hx hb dL_law_32 (by decide) (by decide) (by decide +kernel) (by decide) ?_
        exact lc_23 l cx hX hbl hG hJ inv hn9 hw hl in1 in2 in3 hcs kk
      · refine lv_tableIn (tgt := 824) (off := 792) hx hb dL_law_32 (by decide) (by decide) (by decide +kernel) (by decide) ?_
        exact lc_24 l cx hX hbl hG hJ inv hn9 hw hl in1 in2 in3 hcs kk
      · refine lv_tableIn (tgt := 837) (off := 805) hx hb dL_law_32 (by decide) (by decide) (by decide +kernel) (by decide) ?_
        exact lc_25 l cx hX hbl hG hJ inv hn9 hw hl in1 in2 in3 hcs kk
      · refine lv_tableIn (tgt := 870) (off := 838) hx hb dL_law_32 (by decide) (by decide) (by decide +kernel) (by decide) ?_
        exact lc_26 l cx hX hbl hG hJ inv hn9 hw hl in1 in2 in3 hcs kk
      · refine lv_tableIn (tgt := 893) (off := 861) hx hb dL_law_32 (by decide) (by decide) (by decide +kernel) (by decide) ?_
        exact lc_27 l cx hX hbl hG hJ inv hn9 hw hl in1 in2 in3 hcs kk
      · refine lv_tableIn (tgt := 906) (off := 874) hx hb dL_law_32 (by decide) (by decide) (by decide +kernel) (by decide) ?_
        exact lc_28 l cx hX hbl hG hJ inv hn9 hw hl in1 in2 in3 hcs kk
      · refine lv_tableIn (tgt := 919) (off := 887) hx hb dL_law_32 (by decide) (by decide) (by decide +kernel) (by decide) ?_
        exact lc_29 l cx hX hbl hG hJ inv hn9 hw hl in1 in2 in3 hcs kk
      · refine lv_tableIn (tgt := 932) (off := 900) hx hb dL_law_32 (by decide) (by decide) (by decide +kernel) (by decide) ?_
        exact lc_30 l cx hX hbl hG hJ inv hn9 hw hl in1 in2 in3 hcs kk
      · refine lv_tableOut (tgt := 955) hx hb dL_law_32 (by decide) (by decide) ?_
        exact kk K mi H locs cells slots ls hJ (nc_INV_s inv) hw (Nat.le_add_right _ _) (Nat.le_add_right _ _) hl
