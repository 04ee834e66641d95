-- one more object of the reference: what the shapes are behind it
def nc_ka (K : nc_K) (o f : Nat) : nc_K := nc_kr (nc_kt nc_SM nc_RM K 54 53) o f (K.1 + 0)
def nc_PK (K : nc_K) (o f : Nat) (K' : nc_K) : Prop := K' = K ∨ (K.2.2 o f = 0 ∧ K' = nc_ka K o f)
def nc_PKi (K : nc_K) (o f : Nat) (K' : nc_K) : Prop := (K.2.2 o f = 0 → K' = nc_ka K o f) ∧ (¬ K.2.2 o f = 0 → K' = K)
theorem nt_keep {G : nc_G} {SN : List (Nat × Nat)} {RN : List (Nat × Nat × Nat)} {K : nc_K} {i j a : Nat} {kn : Nat × Nat} (h : nc_Is G K a kn) : nc_Is G (nc_kt SN RN K i j) a kn := by
  refine ⟨h.1, Nat.lt_of_lt_of_le h.2.1 (by show K.1 ≤ K.1 + i; omega), ?_⟩
  show (if K.1 ≤ a ∧ a < K.1 + i then SN.getD (a - K.1) (0, 0) else K.2.1 a) = kn
  rw [if_neg (by have := h.2.1; omega)]
  exact h.2.2
theorem ka_is {G : nc_G} {K : nc_K} {o f a : Nat} {kn : Nat × Nat} (h : nc_Is G K a kn) : nc_Is G (nc_ka K o f) a kn := nc_Is_kr (nt_keep h) rfl
theorem ka_old {K : nc_K} {o f a k : Nat} (ha : a < K.1) (hne : ¬ (a = o ∧ k = f)) : (nc_ka K o f).2.2 a k = K.2.2 a k := by
  show (if a = o ∧ k = f then K.1 + 0 else if a < K.1 then K.2.2 a k else _) = K.2.2 a k
  rw [if_neg hne, if_pos ha]
theorem ka_self {K : nc_K} {o f : Nat} : (nc_ka K o f).2.2 o f = K.1 + 0 := by
  show (if o = o ∧ f = f then K.1 + 0 else _) = K.1 + 0
  rw [if_pos ⟨rfl, rfl⟩]
theorem ka_L {G : nc_G} {K : nc_K} {o f : Nat} (hB : G.2.2.1 ≤ K.1) (ho : o < K.1) : nc_LModel G (nc_ka K o f) (K.1 + 0) :=
  ext_Model (lay_M hB) (fun _ _ h => nc_Is_kr h rfl) (fun a k' h1 _ _ => by
    show (if a = o ∧ k' = f then K.1 + 0 else (nc_kt nc_SM nc_RM K 54 53).2.2 a k') = _
    rw [if_neg (by omega)])
theorem ka_o {G : nc_G} {K K1 : nc_K} {o f : Nat} (h : nc_LModel G K o) (hf : f = 12 ∨ f = 13 ∨ f = 17) (e : K1 = nc_ka K o f) : nc_LModel G K1 o := by
  subst e
  have hsz : o + 53 < K.1 := (lModel_best_L h).2.1
  exact ext_Model h (fun _ _ h => ka_is h) (fun a k' h1 h2 h3 => ka_old (by omega) (by omega))
theorem li_X8_130 : nc_LI RX8 130 yX8_init cX8_init 1 0 := ⟨nc_w 978 (by decide +kernel) rfl, wm_X8_init, wi_X8, wc_X8_init, rfl, by decide +kernel⟩
theorem cl_X8_7 : Cond.classLink RX8 7 RX8 ∈ nc_U := nc_w 977 (by decide +kernel) rfl
theorem wn_X8 : Cond.instantiable RX8 28 ∈ nc_U := nc_w 849 (by decide +kernel) rfl
abbrev rm_X8_town : Room := { frames := 5, cells := 54, slots := 467, locals := 120 }
set_option maxRecDepth 100000 in
set_option maxHeartbeats 4000000 in
theorem c_X8_town (l : Launch) {G : nc_G} {K : nc_K} {o z nz : Nat} (h0 : nc_LModel G K o) (hz : K.2.2 o 17 = z) (hzL : ¬ z = 0 → nc_LModel G K z) (hnz : K.1 = nz) (mi : nc_Mem)  (res : nc_Mem × Int32) (hf : f_X8_town mi o z nz = some res) : nc_MX l yX8_town cX8_town 4 (some .int) rm_X8_town 54 467 G K (nc_PK K o 17) [.ref o] mi res.1 (some (.int res.2)) := by
  refine nc_meet_x (by decide) (Nat.le_of_ble_eq_true rfl) ?_
  intro p e s m args below meth c Q H locs ls cx hret hw hl
  have cx : nc_C p s m args c cX8_town 4 RX8 G := cx
  have hl : lv_has ls 4 [(0, .ref o)] := hl
  have hx := cx.1
  have hb := cx.2.1
  unfold f_X8_town at hf
  refine lv_aload_n hx hb dX8_town_0 rfl (lv_at hl 0 rfl) ?_
  obtain ⟨q1, hq1, hf⟩ := nc_bi hf
  refine nc_callVi cx hw lk_X8_123 (c_X8_faultOfForm l h0 mi  q1 hq1) (ci := 8) rfl (lModel_is h0) rfl hl.1 rfl (Nat.le_of_ble_eq_true rfl) ⟨rfl, rfl, Nat.le_of_ble_eq_true rfl, Nat.le_of_ble_eq_true rfl⟩ dX8_town_1 (fun H locs hw => ?_)
  refine lv_istore_n (lv' := [(1, .int q1.2), (0, .ref o)]) hx hb dX8_town_4 rfl hl (by decide) rfl (fun ls hl => ?_)
  refine lv_iload_n hx hb dX8_town_5 rfl (lv_at hl 0 rfl) ?_
  refine lv_bipush (v := (-9)) hx hb dX8_town_6 (by decide) ?_
  refine lv_icmp_eq (tgt := 22) hx hb dX8_town_8 (by decide) (fun c2 => ?_) (fun c2 => ?_)
  · have hf := nc_ifp hf c2
    refine lv_aload_n hx hb dX8_town_22 rfl (lv_at hl 1 rfl) ?_
    obtain ⟨tr, etr, hf⟩ := nc_jn_of hf
    obtain ⟨mi3, emi3, hf⟩ := nc_jn_of hf
    have htail : ∀ (K' : nc_K) (H : Heap) (locs : List Loc) (ls : Array Slot), nc_PK K o 17 K' → nc_LModel G K' o → K'.2.2 o 17 = tr → nc_LModel G K' tr → nc_W G K' mi3 H locs → lv_has ls 4 [(0, .ref o)] → W p l e rm_X8_town s m args below meth c H locs 54 467 Q (F0 m 40 ls []) := by
      intro K' H locs ls hPK h0 hz' htr hw hl
      refine lv_aload_n hx hb dX8_town_40 rfl (lv_at hl 0 rfl) ?_
      refine gr_X8_126 cx hw (lModel_is h0) hz' (lModel_is htr) dX8_town_41 ?_
      refine lv_aload_n hx hb dX8_town_44 rfl (lv_at hl 0 rfl) ?_
      obtain ⟨q5, hq5, hf⟩ := nc_bi hf
      refine nc_dallVv ⟨Nat.le_of_ble_eq_true rfl, Nat.le_of_ble_eq_true rfl⟩ cx hw lk_X8_131 (c_X8_takeFrom l htr h0 mi3  q5 hq5) (ci := 8) rfl (lModel_is htr) rfl hl.1 rfl (Nat.le_of_ble_eq_true rfl) ⟨rfl, rfl, Nat.le_of_ble_eq_true rfl, Nat.le_of_ble_eq_true rfl⟩ dX8_town_45 (fun H locs hw => ?_)
      refine lv_iconst (v := 0) hx hb dX8_town_48 (by decide) ?_
      refine lv_istore_n (lv' := [(2, .int 0), (0, .ref o)]) hx hb dX8_town_49 rfl hl (by decide) rfl (fun ls hl => ?_)
      refine lv_aload_n hx hb dX8_town_50 rfl (lv_at hl 1 rfl) ?_
      refine lv_iconst (v := 0) hx hb dX8_town_51 (by decide) ?_
      refine pi_X8_78 cx hw (lModel_is h0) dX8_town_52 (fun mi6 H locs emi6 hw => ?_)
      have hf := nc_let_at hf emi6
      obtain ⟨k7, ek7, hf⟩ := nc_jn_of hf
      have hk7 : ∀ (x8 : Int32) (mi9 : nc_Mem), k7 x8 mi9 = some res → ∀ (H : Heap) (locs : List Loc) (ls : Array Slot), nc_W G K' mi9 H locs → lv_has ls 4 [(0, .ref o), (2, .int x8)] → W p l e rm_X8_town s m args below meth c H locs 54 467 Q (F0 m 114 ls []) := by
        intro x8 mi9 hf H locs ls hw hl
        have hf := ((congrFun (congrFun ek7 x8) mi9)).symm.trans hf
        refine lv_aload_n hx hb dX8_town_114 rfl (lv_at hl 0 rfl) ?_
        refine lv_iconst (v := 0) hx hb dX8_town_115 (by decide) ?_
        refine pi_X8_75 cx hw (lModel_is h0) dX8_town_116 (fun mi10 H locs emi10 hw => ?_)
        have hf := nc_let_at hf emi10
        refine lv_iload_n hx hb dX8_town_119 rfl (lv_at hl 1 rfl) ?_
        exact nc_rx hret hPK (Nat.le_of_ble_eq_true rfl) (Nat.le_of_ble_eq_true rfl) hf hw dX8_town_120
      refine nc_loop_w (P := fun κ : Int32 → nc_Mem → Option (nc_Mem × Int32) => ∀ (x11 : Int32) (mi12 : nc_Mem), κ x11 mi12 = some res → ∀ (H : Heap) (locs : List Loc) (ls : Array Slot), nc_W G K' mi12 H locs → lv_has ls 4 [(0, .ref o), (2, .int x11)] → W p l e rm_X8_town s m args below meth c H locs 54 467 Q (F0 m 55 ls [])) ?_ ?_ 200 _ _ hf _ _ _ hw (lv_sub hl [1, 0] rfl)
      · intro x11 mi12 hf; exact absurd hf (by intro q; cases q)
      · intro rc13 ihrc13 x11 mi12 hf H locs ls hw hl
        unfold B_X8_town_55 at hf
        refine lv_aload_n hx hb dX8_town_55 rfl (lv_at hl 0 rfl) ?_
        refine gi_X8_78 cx hw (lModel_is h0) dX8_town_56 ?_
        refine lv_aload_n hx hb dX8_town_59 rfl (lv_at hl 0 rfl) ?_
        refine gi_X8_75 cx hw (lModel_is h0) dX8_town_60 ?_
        refine lv_icmp_ge (tgt := 114) hx hb dX8_town_63 (by decide) (fun c14 => ?_) (fun c14 => ?_)
        · have hf := nc_ifp hf c14
          exact hk7 _ _ hf _ _ _ hw (lv_sub hl [0, 1] rfl)
        · have hf := nc_ifn hf c14
          refine lv_aload_n hx hb dX8_town_66 rfl (lv_at hl 0 rfl) ?_
          refine gi_X8_78 cx hw (lModel_is h0) dX8_town_67 ?_
          refine lv_topi (fun x15 ex15 => ?_)
          have hf := nc_let_at hf ex15
          refine lv_istore_n (lv' := [(3, .int x15), (0, .ref o), (2, .int x11)]) hx hb dX8_town_70 rfl hl (by decide) rfl (fun ls hl => ?_)
          refine lv_aload_n hx hb dX8_town_71 rfl (lv_at hl 1 rfl) ?_
          obtain ⟨q16, hq16, hf⟩ := nc_bi hf
          refine nc_dallVi ⟨Nat.le_of_ble_eq_true rfl, Nat.le_of_ble_eq_true rfl⟩ cx hw lk_X8_98 (c_X8_goesBy l h0 mi12  q16 hq16) (ci := 8) rfl (lModel_is h0) rfl hl.1 rfl (Nat.le_of_ble_eq_true rfl) ⟨rfl, rfl, Nat.le_of_ble_eq_true rfl, Nat.le_of_ble_eq_true rfl⟩ dX8_town_72 (fun H locs hw => ?_)
          refine lv_pop hx hb dX8_town_75 rfl ?_
          refine lv_aload_n hx hb dX8_town_76 rfl (lv_at hl 1 rfl) ?_
          refine lv_aload_n hx hb dX8_town_77 rfl (lv_at hl 1 rfl) ?_
          refine gr_X8_9 cx hw (lModel_is h0) (lModel_letters h0) (lModel_letters_L h0) dX8_town_78 ?_
          refine lv_iload_n hx hb dX8_town_81 rfl (lv_at hl 0 rfl) ?_
          obtain ⟨j17, ej17, ij17, lj17, hf⟩ := nc_ix hf
          refine nc_ild cx hw (lModel_letters_L h0) ij17 ej17 dX8_town_82 ?_
          obtain ⟨q18, hq18, hf⟩ := nc_bi hf
          refine nc_dallVi ⟨Nat.le_of_ble_eq_true rfl, Nat.le_of_ble_eq_true rfl⟩ cx hw lk_X8_135 (c_X8_comes l h0 q16.1 (q16.1 (o + 1) j17) q18 hq18) (ci := 8) rfl (lModel_is h0) rfl hl.1 rfl (Nat.le_of_ble_eq_true rfl) ⟨rfl, rfl, Nat.le_of_ble_eq_true rfl, Nat.le_of_ble_eq_true rfl⟩ dX8_town_83 (fun H locs hw => ?_)
          refine lv_if_ne (tgt := 108) hx hb dX8_town_86 (by decide) (fun c19 => ?_) (fun c19 => ?_)
          · have hf := nc_ifn hf c19
            obtain ⟨x20, ex20⟩ : ∃ y : Int32, y = x11 + 1 := ⟨_, rfl⟩
            have hf := nc_let_at hf ex20
            refine lv_iinc (v := x20) (lv' := [(2, .int x20), (3, .int x15), (0, .ref o)]) hx hb dX8_town_108 hl (k := 2) rfl (by rw [ex20]; rfl) (by decide) rfl (fun ls hl => ?_)
            refine lv_goto (tgt := 55) hx hb dX8_town_111 (by decide) ?_
            exact ihrc13 _ _ hf _ _ _ hw (lv_sub hl [2, 0] rfl)
          · have hf := nc_ifp hf c19
            refine lv_aload_n hx hb dX8_town_89 rfl (lv_at hl 1 rfl) ?_
            refine lv_aload_n hx hb dX8_town_90 rfl (lv_at hl 1 rfl) ?_
            refine gr_X8_126 cx hw (lModel_is h0) hz' (lModel_is htr) dX8_town_91 ?_
            obtain ⟨q21, hq21, hf⟩ := nc_bi hf
            refine nc_dallVv ⟨Nat.le_of_ble_eq_true rfl, Nat.le_of_ble_eq_true rfl⟩ cx hw lk_X8_131 (c_X8_takeFrom l h0 htr q18.1  q21 hq21) (ci := 8) rfl (lModel_is h0) rfl hl.1 rfl (Nat.le_of_ble_eq_true rfl) ⟨rfl, rfl, Nat.le_of_ble_eq_true rfl, Nat.le_of_ble_eq_true rfl⟩ dX8_town_94 (fun H locs hw => ?_)
            refine lv_aload_n hx hb dX8_town_97 rfl (lv_at hl 1 rfl) ?_
            refine lv_iconst (v := 0) hx hb dX8_town_98 (by decide) ?_
            refine pi_X8_75 cx hw (lModel_is h0) dX8_town_99 (fun mi22 H locs emi22 hw => ?_)
            have hf := nc_let_at hf emi22
            refine lv_sipush (v := (-2000)) hx hb dX8_town_102 (by decide) ?_
            refine lv_iload_n hx hb dX8_town_105 rfl (lv_at hl 0 rfl) ?_
            refine lv_isub hx hb dX8_town_106 ?_
            exact nc_rx hret hPK (Nat.le_of_ble_eq_true rfl) (Nat.le_of_ble_eq_true rfl) hf hw dX8_town_107
    refine nc_getz (ci := 8) (k := 17) cx hw rfl (by decide) rfl fl_X8_126 (lModel_is h0) hz dX8_town_23 ?_
    by_cases c4 : z = 0
    · rw [c4, nc_rv_0]
      refine lv_ifnonnullN hx hb dX8_town_26 ?_
      refine lv_aload_n hx hb dX8_town_29 rfl (lv_at hl 1 rfl) ?_
      have hB : G.2.2.1 ≤ K.1 := hw.2.2.1
      have hzr : ∀ a k', K.1 ≤ a → K.2.2 a k' = 0 := fun a k' h => (hw.2.2.2.2.2.1 a k' h).2
      have hw : nc_W G (nc_kt nc_SM nc_RM K 0 0) q1.1 H locs := by rw [nt_0]; exact hw
      refine nt_new (ci := 8) cx hw (by decide +kernel) rfl cl_X8_7 wn_X8 wi_X8 ⟨Nat.le_of_ble_eq_true rfl, Nat.le_of_ble_eq_true rfl⟩ dX8_town_30 (fun H hw => ?_)
      refine lv_dup hx hb dX8_town_33 rfl ?_
      refine nc_runI cx hw li_X8_130 (cn_X8_init_M l hB hzr q1.1) rfl hl.1 rfl (Nat.le_of_ble_eq_true rfl) ⟨rfl, rfl, Nat.le_of_ble_eq_true rfl, Nat.le_of_ble_eq_true rfl⟩ ⟨Nat.le_of_ble_eq_true rfl, Nat.le_of_ble_eq_true rfl⟩ dX8_town_34 (fun H locs hw => ?_)
      refine nc_putR (ci := 8) (k := 17) (ty := .object "NobodyCarriesModel") cx hw rfl (by decide) rfl rfl (by decide +kernel) rfl rfl fl_X8_126 (nt_keep (lModel_is h0)) (by have := hw.2.1; omega) dX8_town_37 (fun K1 H locs eK hw => ?_)
      exact htail K1 _ _ _ (Or.inr ⟨hz.trans c4, eK⟩) (ka_o h0 (by decide) eK) (by rw [etr, if_pos c4, ← hnz, eK]; exact ka_self) (by rw [etr, if_pos c4, ← hnz, eK]; exact ka_L hB (lModel_is h0).2.1) (by rw [emi3, if_pos c4, ← hnz]; exact hw) (lv_sub hl [1] rfl)
    · rw [nc_rv_pos (Nat.pos_of_ne_zero c4)]
      refine lv_ifnonnull (tgt := 40) hx hb dX8_town_26 (by decide) ?_
      refine W.widen (k := 54) (n := 467) (Nat.le_of_ble_eq_true rfl) (Nat.le_of_ble_eq_true rfl) ?_
      exact htail K _ _ _ (Or.inl rfl) h0 (by rw [etr, if_neg c4]; exact hz) (by rw [etr, if_neg c4]; exact hzL c4) (by rw [emi3, if_neg c4]; exact hw) (lv_sub hl [1] rfl)
  · have hf := nc_ifn hf c2
    refine lv_aload_n hx hb dX8_town_11 rfl (lv_at hl 1 rfl) ?_
    refine lv_iconst (v := 0) hx hb dX8_town_12 (by decide) ?_
    refine pi_X8_75 cx hw (lModel_is h0) dX8_town_13 (fun mi23 H locs emi23 hw => ?_)
    have hf := nc_let_at hf emi23
    refine lv_sipush (v := (-1000)) hx hb dX8_town_16 (by decide) ?_
    refine lv_iload_n hx hb dX8_town_19 rfl (lv_at hl 0 rfl) ?_
    refine lv_isub hx hb dX8_town_20 ?_
    exact nc_rx hret (Or.inl rfl) (Nat.le_of_ble_eq_true rfl) (Nat.le_of_ble_eq_true rfl) hf hw dX8_town_21
abbrev rm_X8_days : Room := { frames := 6, cells := 54, slots := 467, locals := 148 }
set_option maxRecDepth 100000 in
set_option maxHeartbeats 4000000 in
theorem c_X8_days (l : Launch) {G : nc_G} {K : nc_K} {o z nz : Nat} (h0 : nc_LModel G K o) (hz : K.2.2 o 13 = z) (hzL : ¬ z = 0 → nc_LModel G K z) (hnz : K.1 = nz) (mi : nc_Mem) (a1 a2 : Int32) (res : nc_Mem × Int32) (hf : f_X8_days mi o z nz a1 a2 = some res) : nc_MX l yX8_days cX8_days 6 (some .int) rm_X8_days 54 467 G K (nc_PK K o 13) [.ref o, .int a1, .int a2] mi res.1 (some (.int res.2)) := by
  refine nc_meet_x (by decide) (Nat.le_of_ble_eq_true rfl) ?_
  intro p e s m args below meth c Q H locs ls cx hret hw hl
  have cx : nc_C p s m args c cX8_days 6 RX8 G := cx
  have hl : lv_has ls 6 [(0, .ref o), (1, .int a1), (2, .int a2)] := hl
  have hx := cx.1
  have hb := cx.2.1
  unfold f_X8_days at hf
  refine lv_iload_n hx hb dX8_days_0 rfl (lv_at hl 1 rfl) ?_
  refine lv_iconst (v := 1) hx hb dX8_days_1 (by decide) ?_
  refine lv_icmp_ge (tgt := 12) hx hb dX8_days_2 (by decide) (fun c1 => ?_) (fun c1 => ?_)
  · have hf := nc_ifp hf c1
    refine lv_iload_n hx hb dX8_days_12 rfl (lv_at hl 1 rfl) ?_
    refine lv_bipush (v := 14) hx hb dX8_days_13 (by decide) ?_
    refine lv_icmp_le (tgt := 25) hx hb dX8_days_15 (by decide) (fun c2 => ?_) (fun c2 => ?_)
    · have hf := nc_ifp hf c2
      refine lv_aload_n hx hb dX8_days_25 rfl (lv_at hl 0 rfl) ?_
      obtain ⟨tr, etr, hf⟩ := nc_jn_of hf
      obtain ⟨mi3, emi3, hf⟩ := nc_jn_of hf
      have htail : ∀ (K' : nc_K) (H : Heap) (locs : List Loc) (ls : Array Slot), nc_PK K o 13 K' → nc_LModel G K' o → K'.2.2 o 13 = tr → nc_LModel G K' tr → nc_W G K' mi3 H locs → lv_has ls 6 [(0, .ref o), (1, .int a1), (2, .int a2)] → W p l e rm_X8_days s m args below meth c H locs 54 467 Q (F0 m 43 ls []) := by
        intro K' H locs ls hPK h0 hz' htr hw hl
        refine lv_aload_n hx hb dX8_days_43 rfl (lv_at hl 0 rfl) ?_
        refine gr_X8_234 cx hw (lModel_is h0) hz' (lModel_is htr) dX8_days_44 ?_
        refine lv_aload_n hx hb dX8_days_47 rfl (lv_at hl 0 rfl) ?_
        obtain ⟨q5, hq5, hf⟩ := nc_bi hf
        refine nc_dallVv ⟨Nat.le_of_ble_eq_true rfl, Nat.le_of_ble_eq_true rfl⟩ cx hw lk_X8_131 (c_X8_takeFrom l htr h0 mi3  q5 hq5) (ci := 8) rfl (lModel_is htr) rfl hl.1 rfl (Nat.le_of_ble_eq_true rfl) ⟨rfl, rfl, Nat.le_of_ble_eq_true rfl, Nat.le_of_ble_eq_true rfl⟩ dX8_days_48 (fun H locs hw => ?_)
        refine lv_aload_n hx hb dX8_days_51 rfl (lv_at hl 0 rfl) ?_
        refine lv_iload_n hx hb dX8_days_52 rfl (lv_at hl 2 rfl) ?_
        refine pi_X8_228 cx hw (lModel_is h0) dX8_days_53 (fun mi6 H locs emi6 hw => ?_)
        have hf := nc_let_at hf emi6
        refine lv_iconst (v := 0) hx hb dX8_days_56 (by decide) ?_
        refine lv_istore_n (lv' := [(3, .int 0), (0, .ref o), (1, .int a1), (2, .int a2)]) hx hb dX8_days_57 rfl hl (by decide) rfl (fun ls hl => ?_)
        refine lv_iconst (v := 0) hx hb dX8_days_58 (by decide) ?_
        refine lv_istore (lv' := [(4, .int 0), (3, .int 0), (0, .ref o), (1, .int a1), (2, .int a2)]) hx hb dX8_days_59 hl (by decide) rfl (fun ls hl => ?_)
        refine nc_loop_w (P := fun κ : Int32 → Int32 → nc_Mem → Option (nc_Mem × Int32) => ∀ (x7 : Int32) (x8 : Int32) (mi9 : nc_Mem), κ x7 x8 mi9 = some res → ∀ (H : Heap) (locs : List Loc) (ls : Array Slot), nc_W G K' mi9 H locs → lv_has ls 6 [(0, .ref o), (1, .int a1), (3, .int x7), (4, .int x8)] → W p l e rm_X8_days s m args below meth c H locs 54 467 Q (F0 m 61 ls [])) ?_ ?_ 200 _ _ _ hf _ _ _ hw (lv_sub hl [2, 3, 1, 0] rfl)
        · intro x7 x8 mi9 hf; exact absurd hf (by intro q; cases q)
        · intro rc10 ihrc10 x7 x8 mi9 hf H locs ls hw hl
          unfold B_X8_days_61 at hf
          refine lv_iload hx hb dX8_days_61 (lv_at hl 3 rfl) ?_
          refine lv_iload_n hx hb dX8_days_63 rfl (lv_at hl 1 rfl) ?_
          refine lv_icmp_ge (tgt := 155) hx hb dX8_days_64 (by decide) (fun c11 => ?_) (fun c11 => ?_)
          · have hf := nc_ifp hf c11
            refine lv_iload_n hx hb dX8_days_155 rfl (lv_at hl 2 rfl) ?_
            exact nc_rx hret hPK (Nat.le_of_ble_eq_true rfl) (Nat.le_of_ble_eq_true rfl) hf hw dX8_days_156
          · have hf := nc_ifn hf c11
            refine lv_iconst (v := 0) hx hb dX8_days_67 (by decide) ?_
            refine lv_istore (lv' := [(5, .int 0), (0, .ref o), (1, .int a1), (3, .int x7), (4, .int x8)]) hx hb dX8_days_68 hl (by decide) rfl (fun ls hl => ?_)
            obtain ⟨k12, ek12, hf⟩ := nc_jn_of hf
            have hk12 : ∀ (mi13 : nc_Mem), k12 mi13 = some res → ∀ (H : Heap) (locs : List Loc) (ls : Array Slot), nc_W G K' mi13 H locs → lv_has ls 6 [(0, .ref o), (1, .int a1), (3, .int x7), (4, .int x8)] → W p l e rm_X8_days s m args below meth c H locs 54 467 Q (F0 m 104 ls []) := by
              intro mi13 hf H locs ls hw hl
              have hf := ((congrFun ek12 mi13)).symm.trans hf
              refine lv_aload_n hx hb dX8_days_104 rfl (lv_at hl 0 rfl) ?_
              refine gr_X8_234 cx hw (lModel_is h0) hz' (lModel_is htr) dX8_days_105 ?_
              obtain ⟨q14, hq14, hf⟩ := nc_bi hf
              refine nc_dallVv ⟨Nat.le_of_ble_eq_true rfl, Nat.le_of_ble_eq_true rfl⟩ cx hw lk_X8_185 (c_X8_findWays l htr mi13  q14 hq14) (ci := 8) rfl (lModel_is htr) rfl hl.1 rfl (Nat.le_of_ble_eq_true rfl) ⟨rfl, rfl, Nat.le_of_ble_eq_true rfl, Nat.le_of_ble_eq_true rfl⟩ dX8_days_108 (fun H locs hw => ?_)
              refine lv_iconst (v := 0) hx hb dX8_days_111 (by decide) ?_
              refine lv_istore (lv' := [(5, .int 0), (0, .ref o), (1, .int a1), (3, .int x7), (4, .int x8)]) hx hb dX8_days_112 hl (by decide) rfl (fun ls hl => ?_)
              refine nc_loop_w (P := fun κ : Int32 → Int32 → nc_Mem → Option (nc_Mem × Int32) => ∀ (x15 : Int32) (x16 : Int32) (mi17 : nc_Mem), κ x15 x16 mi17 = some res → ∀ (H : Heap) (locs : List Loc) (ls : Array Slot), nc_W G K' mi17 H locs → lv_has ls 6 [(0, .ref o), (1, .int a1), (3, .int x15), (4, .int x8), (5, .int x16)] → W p l e rm_X8_days s m args below meth c H locs 54 467 Q (F0 m 114 ls [])) ?_ ?_ 200 _ _ _ hf _ _ _ hw (lv_sub hl [1, 2, 3, 4, 0] rfl)
              · intro x15 x16 mi17 hf; exact absurd hf (by intro q; cases q)
              · intro rc18 ihrc18 x15 x16 mi17 hf H locs ls hw hl
                unfold B_X8_days_114 at hf
                refine lv_iload hx hb dX8_days_114 (lv_at hl 4 rfl) ?_
                refine lv_aload_n hx hb dX8_days_116 rfl (lv_at hl 0 rfl) ?_
                refine gi_X8_68 cx hw (lModel_is h0) dX8_days_117 ?_
                refine lv_icmp_ge (tgt := 149) hx hb dX8_days_120 (by decide) (fun c19 => ?_) (fun c19 => ?_)
                · have hf := nc_ifp hf c19
                  obtain ⟨x20, ex20⟩ : ∃ y : Int32, y = x8 + 1 := ⟨_, rfl⟩
                  have hf := nc_let_at hf ex20
                  refine lv_iinc (v := x20) (lv' := [(4, .int x20), (0, .ref o), (1, .int a1), (3, .int x15), (5, .int x16)]) hx hb dX8_days_149 hl (k := 3) rfl (by rw [ex20]; rfl) (by decide) rfl (fun ls hl => ?_)
                  refine lv_goto (tgt := 61) hx hb dX8_days_152 (by decide) ?_
                  exact ihrc10 _ _ _ hf _ _ _ hw (lv_sub hl [1, 2, 3, 0] rfl)
                · have hf := nc_ifn hf c19
                  refine lv_iload_n hx hb dX8_days_123 rfl (lv_at hl 2 rfl) ?_
                  refine lv_aload_n hx hb dX8_days_124 rfl (lv_at hl 0 rfl) ?_
                  refine gr_X8_234 cx hw (lModel_is h0) hz' (lModel_is htr) dX8_days_125 ?_
                  refine lv_iload hx hb dX8_days_128 (lv_at hl 4 rfl) ?_
                  obtain ⟨q21, hq21, hf⟩ := nc_bi hf
                  refine nc_dallVi ⟨Nat.le_of_ble_eq_true rfl, Nat.le_of_ble_eq_true rfl⟩ cx hw lk_X8_218 (c_X8_isInTime l htr mi17 x16 q21 hq21) (ci := 8) rfl (lModel_is htr) rfl hl.1 rfl (Nat.le_of_ble_eq_true rfl) ⟨rfl, rfl, Nat.le_of_ble_eq_true rfl, Nat.le_of_ble_eq_true rfl⟩ dX8_days_130 (fun H locs hw => ?_)
                  refine lv_if_eq (tgt := 140) hx hb dX8_days_133 (by decide) (fun c22 => ?_) (fun c22 => ?_)
                  · have hf := nc_ifp hf c22
                    refine lv_iconst (v := 0) hx hb dX8_days_140 (by decide) ?_
                    refine lv_iadd hx hb dX8_days_141 ?_
                    refine lv_topi (fun x23 ex23 => ?_)
                    have hf := nc_let_at hf ex23
                    refine lv_istore_n (lv' := [(3, .int x23), (0, .ref o), (1, .int a1), (4, .int x8), (5, .int x16)]) hx hb dX8_days_142 rfl hl (by decide) rfl (fun ls hl => ?_)
                    obtain ⟨x24, ex24⟩ : ∃ y : Int32, y = x16 + 1 := ⟨_, rfl⟩
                    have hf := nc_let_at hf ex24
                    refine lv_iinc (v := x24) (lv' := [(5, .int x24), (3, .int x23), (0, .ref o), (1, .int a1), (4, .int x8)]) hx hb dX8_days_143 hl (k := 4) rfl (by rw [ex24]; rfl) (by decide) rfl (fun ls hl => ?_)
                    refine lv_goto (tgt := 114) hx hb dX8_days_146 (by decide) ?_
                    exact ihrc18 _ _ _ hf _ _ _ hw (lv_sub hl [2, 3, 1, 4, 0] rfl)
                  · have hf := nc_ifn hf c22
                    refine lv_iconst (v := 1) hx hb dX8_days_136 (by decide) ?_
                    refine lv_goto (tgt := 141) hx hb dX8_days_137 (by decide) ?_
                    refine lv_iadd hx hb dX8_days_141 ?_
                    refine lv_topi (fun x25 ex25 => ?_)
                    have hf := nc_let_at hf ex25
                    refine lv_istore_n (lv' := [(3, .int x25), (0, .ref o), (1, .int a1), (4, .int x8), (5, .int x16)]) hx hb dX8_days_142 rfl hl (by decide) rfl (fun ls hl => ?_)
                    obtain ⟨x26, ex26⟩ : ∃ y : Int32, y = x16 + 1 := ⟨_, rfl⟩
                    have hf := nc_let_at hf ex26
                    refine lv_iinc (v := x26) (lv' := [(5, .int x26), (3, .int x25), (0, .ref o), (1, .int a1), (4, .int x8)]) hx hb dX8_days_143 hl (k := 4) rfl (by rw [ex26]; rfl) (by decide) rfl (fun ls hl => ?_)
                    refine lv_goto (tgt := 114) hx hb dX8_days_146 (by decide) ?_
                    exact ihrc18 _ _ _ hf _ _ _ hw (lv_sub hl [2, 3, 1, 4, 0] rfl)
            refine nc_loop_w (P := fun κ : Int32 → nc_Mem → Option (nc_Mem × Int32) => ∀ (x27 : Int32) (mi28 : nc_Mem), κ x27 mi28 = some res → ∀ (H : Heap) (locs : List Loc) (ls : Array Slot), nc_W G K' mi28 H locs → lv_has ls 6 [(0, .ref o), (1, .int a1), (3, .int x7), (4, .int x8), (5, .int x27)] → W p l e rm_X8_days s m args below meth c H locs 54 467 Q (F0 m 70 ls [])) ?_ ?_ 200 _ _ hf _ _ _ hw (lv_sub hl [1, 2, 3, 4, 0] rfl)
            · intro x27 mi28 hf; exact absurd hf (by intro q; cases q)
            · intro rc29 ihrc29 x27 mi28 hf H locs ls hw hl
              unfold B_X8_days_70 at hf
              refine lv_iload hx hb dX8_days_70 (lv_at hl 4 rfl) ?_
              refine lv_aload_n hx hb dX8_days_72 rfl (lv_at hl 0 rfl) ?_
              refine gi_X8_65 cx hw (lModel_is h0) dX8_days_73 ?_
              refine lv_icmp_ge (tgt := 104) hx hb dX8_days_76 (by decide) (fun c30 => ?_) (fun c30 => ?_)
              · have hf := nc_ifp hf c30
                exact hk12 _ hf _ _ _ hw (lv_sub hl [0, 1, 2, 3] rfl)
              · have hf := nc_ifn hf c30
                refine lv_aload_n hx hb dX8_days_79 rfl (lv_at hl 0 rfl) ?_
                refine gr_X8_234 cx hw (lModel_is h0) hz' (lModel_is htr) dX8_days_80 ?_
                refine gr_X8_28 cx hw (lModel_is htr) (lModel_person htr) ((lModel_person_L htr)).1 dX8_days_83 ?_
                refine lv_iload hx hb dX8_days_86 (lv_at hl 4 rfl) ?_
                obtain ⟨j31, ej31, ij31, lj31, hf⟩ := nc_ix hf
                refine nc_ald cx hw (by decide) ((lModel_person_L htr)).1 ij31 ej31 (((lModel_person_L htr)).2 j31 lj31).1 (((lModel_person_L htr)).2 j31 lj31).2 dX8_days_88 ?_
                refine lv_iconst (v := 2) hx hb dX8_days_89 (by decide) ?_
                refine lv_aload_n hx hb dX8_days_90 rfl (lv_at hl 0 rfl) ?_
                refine lv_sipush (v := 721) hx hb dX8_days_91 (by decide) ?_
                obtain ⟨q32, hq32, hf⟩ := nc_bi hf
                refine nc_dallVi ⟨Nat.le_of_ble_eq_true rfl, Nat.le_of_ble_eq_true rfl⟩ cx hw lk_X8_237 (c_X8_draw l h0 mi28 721 q32 hq32) (ci := 8) rfl (lModel_is h0) rfl hl.1 rfl (Nat.le_of_ble_eq_true rfl) ⟨rfl, rfl, Nat.le_of_ble_eq_true rfl, Nat.le_of_ble_eq_true rfl⟩ dX8_days_94 (fun H locs hw => ?_)
                refine nc_ist cx hw (((lModel_person_L htr)).2 j31 lj31).2 (nc_lit (j := 2) rfl (by decide) (by decide)) rfl dX8_days_97 (fun mi33 H locs emi33 hw => ?_)
                have hf := nc_let_at hf emi33
                obtain ⟨x34, ex34⟩ : ∃ y : Int32, y = x27 + 1 := ⟨_, rfl⟩
                have hf := nc_let_at hf ex34
                refine lv_iinc (v := x34) (lv' := [(5, .int x34), (0, .ref o), (1, .int a1), (3, .int x7), (4, .int x8)]) hx hb dX8_days_98 hl (k := 4) rfl (by rw [ex34]; rfl) (by decide) rfl (fun ls hl => ?_)
                refine lv_goto (tgt := 70) hx hb dX8_days_101 (by decide) ?_
                exact ihrc29 _ _ hf _ _ _ hw (lv_sub hl [1, 2, 3, 4, 0] rfl)
      refine nc_getz (ci := 8) (k := 13) cx hw rfl (by decide) rfl fl_X8_234 (lModel_is h0) hz dX8_days_26 ?_
      by_cases c4 : z = 0
      · rw [c4, nc_rv_0]
        refine lv_ifnonnullN hx hb dX8_days_29 ?_
        refine lv_aload_n hx hb dX8_days_32 rfl (lv_at hl 0 rfl) ?_
        have hB : G.2.2.1 ≤ K.1 := hw.2.2.1
        have hzr : ∀ a k', K.1 ≤ a → K.2.2 a k' = 0 := fun a k' h => (hw.2.2.2.2.2.1 a k' h).2
        have hw : nc_W G (nc_kt nc_SM nc_RM K 0 0) mi H locs := by rw [nt_0]; exact hw
        refine nt_new (ci := 8) cx hw (by decide +kernel) rfl cl_X8_7 wn_X8 wi_X8 ⟨Nat.le_of_ble_eq_true rfl, Nat.le_of_ble_eq_true rfl⟩ dX8_days_33 (fun H hw => ?_)
        refine lv_dup hx hb dX8_days_36 rfl ?_
        refine nc_runI cx hw li_X8_130 (cn_X8_init_M l hB hzr mi) rfl hl.1 rfl (Nat.le_of_ble_eq_true rfl) ⟨rfl, rfl, Nat.le_of_ble_eq_true rfl, Nat.le_of_ble_eq_true rfl⟩ ⟨Nat.le_of_ble_eq_true rfl, Nat.le_of_ble_eq_true rfl⟩ dX8_days_37 (fun H locs hw => ?_)
        refine nc_putR (ci := 8) (k := 13) (ty := .object "NobodyCarriesModel") cx hw rfl (by decide) rfl rfl (by decide +kernel) rfl rfl fl_X8_234 (nt_keep (lModel_is h0)) (by have := hw.2.1; omega) dX8_days_40 (fun K1 H locs eK hw => ?_)
        exact htail K1 _ _ _ (Or.inr ⟨hz.trans c4, eK⟩) (ka_o h0 (by decide) eK) (by rw [etr, if_pos c4, ← hnz, eK]; exact ka_self) (by rw [etr, if_pos c4, ← hnz, eK]; exact ka_L hB (lModel_is h0).2.1) (by rw [emi3, if_pos c4, ← hnz]; exact hw) (lv_sub hl [0, 1, 2] rfl)
      · rw [nc_rv_pos (Nat.pos_of_ne_zero c4)]
        refine lv_ifnonnull (tgt := 43) hx hb dX8_days_29 (by decide) ?_
        refine W.widen (k := 54) (n := 467) (Nat.le_of_ble_eq_true rfl) (Nat.le_of_ble_eq_true rfl) ?_
        exact htail K _ _ _ (Or.inl rfl) h0 (by rw [etr, if_neg c4]; exact hz) (by rw [etr, if_neg c4]; exact hzL c4) (by rw [emi3, if_neg c4]; exact hw) (lv_sub hl [0, 1, 2] rfl)
    · have hf := nc_ifn hf c2
      refine lv_aload_n hx hb dX8_days_18 rfl (lv_at hl 0 rfl) ?_
      refine lv_bipush (v := (-6)) hx hb dX8_days_19 (by decide) ?_
      obtain ⟨q35, hq35, hf⟩ := nc_bi hf
      refine nc_callVi cx hw lk_X8_71 (c_X8_refuse l h0 mi (-6) q35 hq35) (ci := 8) rfl (lModel_is h0) rfl hl.1 rfl (Nat.le_of_ble_eq_true rfl) ⟨rfl, rfl, Nat.le_of_ble_eq_true rfl, Nat.le_of_ble_eq_true rfl⟩ dX8_days_21 (fun H locs hw => ?_)
      exact nc_rx hret (Or.inl rfl) (Nat.le_of_ble_eq_true rfl) (Nat.le_of_ble_eq_true rfl) hf hw dX8_days_24
  · have hf := nc_ifn hf c1
    refine lv_aload_n hx hb dX8_days_5 rfl (lv_at hl 0 rfl) ?_
    refine lv_bipush (v := (-4)) hx hb dX8_days_6 (by decide) ?_
    obtain ⟨q36, hq36, hf⟩ := nc_bi hf
    refine nc_callVi cx hw lk_X8_71 (c_X8_refuse l h0 mi (-4) q36 hq36) (ci := 8) rfl (lModel_is h0) rfl hl.1 rfl (Nat.le_of_ble_eq_true rfl) ⟨rfl, rfl, Nat.le_of_ble_eq_true rfl, Nat.le_of_ble_eq_true rfl⟩ dX8_days_8 (fun H locs hw => ?_)
    exact nc_rx hret (Or.inl rfl) (Nat.le_of_ble_eq_true rfl) (Nat.le_of_ble_eq_true rfl) hf hw dX8_days_11
abbrev rm_X8_image : Room := { frames := 3, cells := 54, slots := 467, locals := 120 }
set_option maxRecDepth 100000 in
set_option maxHeartbeats 4000000 in
theorem c_X8_image (l : Launch) {G : nc_G} {K : nc_K} {o z nz : Nat} (h0 : nc_LModel G K o) (hz : K.2.2 o 12 = z) (hzL : ¬ z = 0 → nc_LModel G K z) (hnz : K.1 = nz) (mi : nc_Mem)  (res : nc_Mem × Int32) (hf : f_X8_image mi o z nz = some res) : nc_MX l yX8_image cX8_image 1 (some .int) rm_X8_image 54 467 G K (nc_PKi K o 12) [.ref o] mi res.1 (some (.int res.2)) := by
  refine nc_meet_x (by decide) (Nat.le_of_ble_eq_true rfl) ?_
  intro p e s m args below meth c Q H locs ls cx hret hw hl
  have cx : nc_C p s m args c cX8_image 1 RX8 G := cx
  have hl : lv_has ls 1 [(0, .ref o)] := hl
  have hx := cx.1
  have hb := cx.2.1
  unfold f_X8_image at hf
  refine lv_aload_n hx hb dX8_image_0 rfl (lv_at hl 0 rfl) ?_
  obtain ⟨tr, etr, hf⟩ := nc_jn_of hf
  obtain ⟨mi1, emi1, hf⟩ := nc_jn_of hf
  have htail : ∀ (K' : nc_K) (H : Heap) (locs : List Loc) (ls : Array Slot), nc_PKi K o 12 K' → nc_LModel G K' o → K'.2.2 o 12 = tr → nc_LModel G K' tr → nc_W G K' mi1 H locs → lv_has ls 1 [(0, .ref o)] → W p l e rm_X8_image s m args below meth c H locs 54 467 Q (F0 m 18 ls []) := by
    intro K' H locs ls hPK h0 hz' htr hw hl
    refine lv_aload_n hx hb dX8_image_18 rfl (lv_at hl 0 rfl) ?_
    refine gr_X8_250 cx hw (lModel_is h0) hz' (lModel_is htr) dX8_image_19 ?_
    refine lv_aload_n hx hb dX8_image_22 rfl (lv_at hl 0 rfl) ?_
    obtain ⟨q3, hq3, hf⟩ := nc_bi hf
    refine nc_dallVv ⟨Nat.le_of_ble_eq_true rfl, Nat.le_of_ble_eq_true rfl⟩ cx hw lk_X8_131 (c_X8_takeFrom l htr h0 mi1  q3 hq3) (ci := 8) rfl (lModel_is htr) rfl hl.1 rfl (Nat.le_of_ble_eq_true rfl) ⟨rfl, rfl, Nat.le_of_ble_eq_true rfl, Nat.le_of_ble_eq_true rfl⟩ dX8_image_23 (fun H locs hw => ?_)
    refine lv_aload_n hx hb dX8_image_26 rfl (lv_at hl 0 rfl) ?_
    refine gi_X8_68 cx hw (lModel_is h0) dX8_image_27 ?_
    exact nc_rx hret hPK (Nat.le_of_ble_eq_true rfl) (Nat.le_of_ble_eq_true rfl) hf hw dX8_image_30
  refine nc_getz (ci := 8) (k := 12) cx hw rfl (by decide) rfl fl_X8_250 (lModel_is h0) hz dX8_image_1 ?_
  by_cases c2 : z = 0
  · rw [c2, nc_rv_0]
    refine lv_ifnonnullN hx hb dX8_image_4 ?_
    refine lv_aload_n hx hb dX8_image_7 rfl (lv_at hl 0 rfl) ?_
    have hB : G.2.2.1 ≤ K.1 := hw.2.2.1
    have hzr : ∀ a k', K.1 ≤ a → K.2.2 a k' = 0 := fun a k' h => (hw.2.2.2.2.2.1 a k' h).2
    have hw : nc_W G (nc_kt nc_SM nc_RM K 0 0) mi H locs := by rw [nt_0]; exact hw
    refine nt_new (ci := 8) cx hw (by decide +kernel) rfl cl_X8_7 wn_X8 wi_X8 ⟨Nat.le_of_ble_eq_true rfl, Nat.le_of_ble_eq_true rfl⟩ dX8_image_8 (fun H hw => ?_)
    refine lv_dup hx hb dX8_image_11 rfl ?_
    refine nc_runI cx hw li_X8_130 (cn_X8_init_M l hB hzr mi) rfl hl.1 rfl (Nat.le_of_ble_eq_true rfl) ⟨rfl, rfl, Nat.le_of_ble_eq_true rfl, Nat.le_of_ble_eq_true rfl⟩ ⟨Nat.le_of_ble_eq_true rfl, Nat.le_of_ble_eq_true rfl⟩ dX8_image_12 (fun H locs hw => ?_)
    refine nc_putR (ci := 8) (k := 12) (ty := .object "NobodyCarriesModel") cx hw rfl (by decide) rfl rfl (by decide +kernel) rfl rfl fl_X8_250 (nt_keep (lModel_is h0)) (by have := hw.2.1; omega) dX8_image_15 (fun K1 H locs eK hw => ?_)
    exact htail K1 _ _ _ ⟨fun _ => eK, fun h => absurd (hz.trans c2) h⟩ (ka_o h0 (by decide) eK) (by rw [etr, if_pos c2, ← hnz, eK]; exact ka_self) (by rw [etr, if_pos c2, ← hnz, eK]; exact ka_L hB (lModel_is h0).2.1) (by rw [emi1, if_pos c2, ← hnz]; exact hw) (lv_sub hl [0] rfl)
  · rw [nc_rv_pos (Nat.pos_of_ne_zero c2)]
    refine lv_ifnonnull (tgt := 18) hx hb dX8_image_4 (by decide) ?_
    refine W.widen (k := 54) (n := 467) (Nat.le_of_ble_eq_true rfl) (Nat.le_of_ble_eq_true rfl) ?_
    exact htail K _ _ _ ⟨fun h => absurd (hz.symm.trans h) c2, fun _ => rfl⟩ h0 (by rw [etr, if_neg c2]; exact hz) (by rw [etr, if_neg c2]; exact hzL c2) (by rw [emi1, if_neg c2]; exact hw) (lv_sub hl [0] rfl)
abbrev rm_X8_on : Room := { frames := 2, cells := 0, slots := 0, locals := 44 }
set_option maxRecDepth 100000 in
set_option maxHeartbeats 4000000 in
theorem c_X8_on (l : Launch) {G : nc_G} {K : nc_K} {o z : Nat} (h0 : nc_LModel G K o) (hz : K.2.2 o 12 = z) (hzL : ¬ z = 0 → nc_LModel G K z) (mi : nc_Mem)  (res : nc_Mem × Int32) (hf : f_X8_on mi o z = some res) : nc_M l yX8_on cX8_on 1 (some .int) rm_X8_on 0 0 G K K [.ref o] mi res.1 (some (.int res.2)) := by
  refine nc_meet_i (by decide) (Nat.le_of_ble_eq_true rfl) ?_
  intro p e s m args below meth c Q H locs ls cx hret hw hl
  have cx : nc_C p s m args c cX8_on 1 RX8 G := cx
  have hl : lv_has ls 1 [(0, .ref o)] := hl
  have hx := cx.1
  have hb := cx.2.1
  unfold f_X8_on at hf
  refine lv_aload_n hx hb dX8_on_0 rfl (lv_at hl 0 rfl) ?_
  refine nc_getz (ci := 8) (k := 12) cx hw rfl (by decide) rfl fl_X8_250 (lModel_is h0) hz dX8_on_1 ?_
  by_cases c1 : z = 0
  · have hf := nc_ifp hf c1
    rw [c1, nc_rv_0]
    refine lv_ifnonnullN hx hb dX8_on_4 ?_
    refine lv_aload_n hx hb dX8_on_7 rfl (lv_at hl 0 rfl) ?_
    refine lv_bipush (v := (-3)) hx hb dX8_on_8 (by decide) ?_
    obtain ⟨q2, hq2, hf⟩ := nc_bi hf
    refine nc_callVi cx hw lk_X8_71 (c_X8_refuse l h0 mi (-3) q2 hq2) (ci := 8) rfl (lModel_is h0) rfl hl.1 rfl (Nat.le_of_ble_eq_true rfl) ⟨rfl, rfl, Nat.le_of_ble_eq_true rfl, Nat.le_of_ble_eq_true rfl⟩ dX8_on_10 (fun H locs hw => ?_)
    exact nc_rpm hret hf rfl hw dX8_on_13
  · have hf := nc_ifn hf c1
    rw [nc_rv_pos (Nat.pos_of_ne_zero c1)]
    refine lv_ifnonnull (tgt := 14) hx hb dX8_on_4 (by decide) ?_
    refine lv_aload_n hx hb dX8_on_14 rfl (lv_at hl 0 rfl) ?_
    refine lv_aload_n hx hb dX8_on_15 rfl (lv_at hl 0 rfl) ?_
    refine gr_X8_250 cx hw (lModel_is h0) hz (lModel_is (hzL c1)) dX8_on_16 ?_
    obtain ⟨q3, hq3, hf⟩ := nc_bi hf
    refine nc_callVv cx hw lk_X8_131 (c_X8_takeFrom l h0 (hzL c1) mi  q3 hq3) (ci := 8) rfl (lModel_is h0) rfl hl.1 rfl (Nat.le_of_ble_eq_true rfl) ⟨rfl, rfl, Nat.le_of_ble_eq_true rfl, Nat.le_of_ble_eq_true rfl⟩ dX8_on_19 (fun H locs hw => ?_)
    refine lv_aload_n hx hb dX8_on_22 rfl (lv_at hl 0 rfl) ?_
    refine gi_X8_68 cx hw (lModel_is h0) dX8_on_23 ?_
    exact nc_rpm hret hf rfl hw dX8_on_26
