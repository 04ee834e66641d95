-- THE LAW: its start
def nc_S0 : nc_S := (4, 0, 0, 0, (fun _ _ => 0), (fun _ _ => 0), fun _ _ => 0)
theorem nc_S0_wf : s_wf nc_S0 0 4 0 0 := ⟨rfl, by omega, by omega, rfl, by omega, rfl, by omega, ⟨0, by omega, rfl⟩, fun a c _ _ => ⟨⟨0, by omega, rfl⟩, fun h => absurd rfl h⟩, fun p hp => absurd hp (Nat.not_lt_zero _), fun t ht => absurd ht (Nat.not_lt_zero _)⟩
theorem nc_v0 {m : nc_Mem} {b : Nat} (h : ∀ a k, b ≤ a → a < b + 17 → a ≠ b + 4 → m a k = 0) : vC (nc_up m b 4 4) b = nc_S0 := by
  unfold nc_S0
  simp only [vC, Prod.mk.injEq]
  refine ⟨nc_up_same, (nc_up_ne (by omega)).trans (h _ _ (by omega) (by omega) (by omega)), (nc_up_ne (by omega)).trans (h _ _ (by omega) (by omega) (by omega)), (nc_up_ne (by omega)).trans (h _ _ (by omega) (by omega) (by omega)), ?_, ?_, ?_⟩ <;> funext i j <;> split <;> first | rfl | exact (nc_up_na (by omega)).trans (h _ _ (by omega) (by omega) (by omega))
theorem nc_INV_0 (X : Nat) : ∃ m1 m2 m3, f_X5_measure (nc_up (fun _ _ => 0) (X + 1) 4 4) (X + 1) = some m1 ∧ f_X5_measure (nc_up m1 (X + 18) 4 4) (X + 18) = some m2 ∧ f_X5_measure (nc_up m2 (X + 35) 4 4) (X + 35) = some m3 ∧ ∀ M, X + 82 ≤ M → nc_INV 0 X M 0 (nc_up (nc_up (nc_up m3 X 8 0) X 9 0) M 5 4) := by
  have ww := s_wf_ww nc_S0_wf
  obtain ⟨m1, e1, l1, F1⟩ := C_measure (mi := nc_up (fun _ _ => 0) (X + 1) 4 4) (b := X + 1) (nc_v0 (fun _ _ _ _ _ => rfl)) ww
  have z1 : ∀ a k, ¬ (X + 1 ≤ a ∧ a < X + 18) → m1 a k = 0 := fun a k h => (F1 a k (by omega)).trans (nc_up_na (by omega))
  obtain ⟨m2, e2, l2, F2⟩ := C_measure (mi := nc_up m1 (X + 18) 4 4) (b := X + 18) (nc_v0 (fun a k h1 h2 h3 => z1 a k (by omega))) ww
  have z2 : ∀ a k, ¬ (X + 1 ≤ a ∧ a < X + 35) → m2 a k = 0 := fun a k h => (F2 a k (by omega)).trans ((nc_up_na (by omega)).trans (z1 a k (by omega)))
  obtain ⟨m3, e3, l3, F3⟩ := C_measure (mi := nc_up m2 (X + 35) 4 4) (b := X + 35) (nc_v0 (fun a k h1 h2 h3 => z2 a k (by omega))) ww
  have z3 : ∀ a k, ¬ (X + 1 ≤ a ∧ a < X + 52) → m3 a k = 0 := fun a k h => (F3 a k (by omega)).trans ((nc_up_na (by omega)).trans (z2 a k (by omega)))
  have b3 : ∀ a k, (X + 1 ≤ a ∧ a < X + 18) → m3 a k = m1 a k := fun a k h => (F3 a k (by omega)).trans ((nc_up_na (by omega)).trans ((F2 a k (by omega)).trans (nc_up_na (by omega))))
  refine ⟨m1, m2, m3, e1, e2, e3, fun M hM => ?_⟩
  have zz : ∀ a k, ¬ (X + 1 ≤ a ∧ a < X + 52) → ¬ a = M → nc_up (nc_up (nc_up m3 X 8 0) X 9 0) M 5 4 a k = 0 := fun a k h1 h2 => by
    rw [nc_up_na h2]
    by_cases c : a = X ∧ k = 9
    · rw [c.1, c.2, nc_up_same]
    · rw [nc_up_ne c]
      by_cases c' : a = X ∧ k = 8
      · rw [c'.1, c'.2, nc_up_same]
      · rw [nc_up_ne c']
        exact z3 a k h1
  have bb : ∀ a k, (X + 1 ≤ a ∧ a < X + 52) → nc_up (nc_up (nc_up m3 X 8 0) X 9 0) M 5 4 a k = m3 a k := fun a k h => by
    rw [nc_up_na (by omega), nc_up_na (by omega), nc_up_na (by omega)]
  have hv : vC (nc_up (nc_up (nc_up m3 X 8 0) X 9 0) M 5 4) (X + 1) = nc_S0 := by
    have x1 : vC (nc_up (nc_up (nc_up m3 X 8 0) X 9 0) M 5 4) (X + 1) = vC (nc_up (fun _ _ => 0) (X + 1) 4 4) (X + 1) := vC_fr (fun a k h1 h2 h3 => (bb a k (by omega)).trans ((b3 a k (by omega)).trans (F1 a k (by omega))))
    rw [x1]
    exact nc_v0 (fun _ _ _ _ _ => rfl)
  have mz : ∀ a k, M ≤ a → ¬ (a = M ∧ k = 5) → nc_up (nc_up (nc_up m3 X 8 0) X 9 0) M 5 4 a k = 0 := fun a k h1 h2 => by
    rw [nc_up_ne h2, nc_up_na (by omega), nc_up_na (by omega)]
    exact z3 a k (by omega)
  have hm : vM (nc_up (nc_up (nc_up m3 X 8 0) X 9 0) M 5 4) M = nc_S0 := by
    unfold nc_S0
    simp only [vM, Prod.mk.injEq]
    refine ⟨nc_up_same, mz _ _ (by omega) (by omega), mz _ _ (by omega) (by omega), mz _ _ (by omega) (by omega), ?_, ?_, ?_⟩ <;> funext i j <;> split <;> first | rfl | exact mz _ _ (by omega) (by omega)
  refine ⟨(nc_S0, ((0 : Int32), fun _ => 0), ((0 : Int32), fun _ => 0), fun _ => 0), ?_, ?_, ⟨⟨4, 0, 0, nc_S0_wf⟩, ⟨0, rfl, by omega, fun i hi => absurd hi (Nat.not_lt_zero _)⟩, ⟨0, rfl, by omega, fun i hi => absurd hi (Nat.not_lt_zero _)⟩⟩, fun a c ha hc => ?_, fun _ _ => rfl, Or.inl ⟨rfl, zz _ _ (by omega) (by omega)⟩⟩
  · simp only [aC, Prod.mk.injEq]
    refine ⟨hv, ⟨zz _ _ (by omega) (by omega), ?_⟩, ⟨zz _ _ (by omega) (by omega), ?_⟩, ?_⟩ <;> funext i <;> split <;> first | rfl | exact zz _ _ (by omega) (by omega)
  · simp only [aM, Prod.mk.injEq]
    refine ⟨hm, ⟨mz _ _ (by omega) (by omega), ?_⟩, ⟨mz _ _ (by omega) (by omega), ?_⟩, ?_⟩ <;> funext i <;> split <;> first | rfl | exact mz _ _ (by omega) (by omega)
  · rw [bb _ _ (by omega), b3 _ _ (by omega)]
    exact l1 a c ha hc
theorem cl_L_7 : Cond.classLink RL 7 RX7 ∈ nc_U := nc_w 85 (by decide +kernel) rfl
theorem cl_L_10 : Cond.classLink RL 10 RX8 ∈ nc_U := nc_w 848 (by decide +kernel) rfl
theorem wn_X7 : Cond.instantiable RX7 10 ∈ nc_U := nc_w 86 (by decide +kernel) rfl
theorem li_L_9 : nc_LI RL 9 yX7_init cX7_init 1 0 := ⟨ml_L_9, wm_X7_init, wi_X7, wc_X7_init, rfl, by decide +kernel⟩
theorem li_L_12 : nc_LI RL 12 yX8_init cX8_init 1 0 := ⟨ml_L_12, wm_X8_init, wi_X8, wc_X8_init, rfl, by decide +kernel⟩
theorem nt_z {SN : List (Nat × Nat)} {RN : List (Nat × Nat × Nat)} {K0 : nc_K} {i j o k : Nat} (h : nc_lk RN o k j = 0) (hz : K0.2.2 (K0.1 + o) k = 0) : (nc_kt SN RN K0 i j).2.2 (K0.1 + o) k = 0 := by
  show (if K0.1 + o < K0.1 then K0.2.2 (K0.1 + o) k else if nc_lk RN (K0.1 + o - K0.1) k j = 0 then K0.2.2 (K0.1 + o) k else K0.1 + (nc_lk RN (K0.1 + o - K0.1) k j - 1)) = 0
  rw [if_neg (by omega), show K0.1 + o - K0.1 = o by omega, if_pos h]
  exact hz
theorem nc_J_0 {G : nc_G} {K0 K1 : nc_K} (hB : G.2.2.1 ≤ K0.1) (e1 : K1 = nc_kt nc_SN nc_RN K0 82 82) (hz : ∀ a k, K1.1 ≤ a → K1.2.2 a k = 0) : nc_J G (nc_kt nc_SM nc_RM K1 54 53) (K0.1 + 0) (K1.1 + 0) ∧ (nc_kt nc_SM nc_RM K1 54 53).2.2 (K1.1 + 0) 12 = 0 := by
  have h1 : K1.1 = K0.1 + 82 := by rw [e1]; rfl
  have hB1 : G.2.2.1 ≤ K1.1 := by omega
  have z : ∀ f, f = 12 ∨ f = 13 ∨ f = 17 → (nc_kt nc_SM nc_RM K1 54 53).2.2 (K1.1 + 0) f = 0 := fun f hf => by
    refine nt_z (o := 0) ?_ (hz _ _ (by omega))
    rcases hf with rfl | rfl | rfl <;> decide +kernel
  refine ⟨⟨?_, lay_M hB1, by omega, fun f hf h => absurd (z f hf) h, fun f g hf hg _ h => absurd (z f hf) h⟩, z 12 (Or.inl rfl)⟩
  have lN : nc_LNC G K1 (K0.1 + 0) := by rw [e1]; exact lay_N hB
  refine ext_NC lN (fun _ _ h => nt_keep h) (fun a k h2 h3 => ?_)
  show (if a < K1.1 then K1.2.2 a k else _) = K1.2.2 a k
  rw [if_pos (by omega)]
set_option maxRecDepth 100000 in
set_option maxHeartbeats 4000000 in
theorem whole_start {p : Program} {e : Env} {s : State} {m : MethodId} {below : List Frame} {meth : Method} {c : Code} (l : Launch) (hflags : l.flags = flags0) {b L : Nat} {xs : Nat → Int32} (hL : L ≤ 256) (C0 : lw_At p s m meth c b L xs) : W p l e room_1 s m #[Value.ref b] below meth c s.heap [] 0 0 (lw_Z below #[Value.ref b] s) (entryFrame m ([Value.ref b] : List Value).toArray 4) := by
  obtain ⟨hx, hb, hr, hml, hown, hts, hX, hbl, hlocks, hgv⟩ := id C0
  obtain ⟨G, hG1, hG2, hE⟩ := nc_entry hts hgv
  have cx : nc_C p s m #[Value.ref b] c cL_law 4 RL G := ⟨hx, hb, hml, hown, fun w hw => hts w (List.mem_filter.mp hw).1, hE⟩
  obtain ⟨K0, hK0, hK0s, hK0r⟩ : ∃ K0 : nc_K, K0.1 = s.heap.size ∧ (∀ a, K0.2.1 a = (0, 0)) ∧ ∀ a k, K0.2.2 a k = 0 := ⟨(s.heap.size, fun _ => (0, 0), fun _ _ => 0), rfl, fun _ => rfl, fun _ _ => rfl⟩
  have hB : G.2.2.1 ≤ K0.1 := by omega
  have hw : nc_W G K0 (fun _ _ => 0) s.heap [] := ⟨hK0.symm, by omega, hB, fun q _ => by rw [hG2], fun a h1 h2 => absurd h2 (by omega), fun a k _ => ⟨rfl, hK0r a k⟩, fun q hq => by cases hq⟩
  have hw : nc_W G (nc_kt nc_SN nc_RN K0 0 0) (fun _ _ => 0) s.heap [] := by rw [nt_0]; exact hw
  obtain ⟨m1, m2, m3, f1, f2, f3, hinv⟩ := nc_INV_0 K0.1
  refine nc_start (Nat.le_of_ble_eq_true rfl) (fun ls hl => ?_)
  have hl : lv_has ls 4 [(0, .ref b)] := hl
  refine nt_new (ci := 7) cx hw (by decide +kernel) rfl cl_L_7 wn_X7 wi_X7 ⟨Nat.le_of_ble_eq_true rfl, Nat.le_of_ble_eq_true rfl⟩ dL_law_0 (fun H hw => ?_)
  refine lv_dup hx hb dL_law_3 rfl ?_
  refine nc_runI cx hw li_L_9 (cn_X7_init_0 l hB _ m1 m2 m3 f1 f2 f3) rfl hl.1 rfl (Nat.le_of_ble_eq_true rfl) ⟨rfl, rfl, Nat.le_of_ble_eq_true rfl, Nat.le_of_ble_eq_true rfl⟩ ⟨Nat.le_of_ble_eq_true rfl, Nat.le_of_ble_eq_true rfl⟩ dL_law_4 (fun H locs hw => ?_)
  refine lv_astore_n (lv' := [(1, .ref (K0.1 + 0)), (0, .ref b)]) hx hb dL_law_7 rfl hl (by decide) rfl (fun ls hl => ?_)
  obtain ⟨K1, hK1⟩ : ∃ K1, K1 = nc_kt nc_SN nc_RN K0 82 82 := ⟨_, rfl⟩
  rw [← hK1] at hw
  have hB1 : G.2.2.1 ≤ K1.1 := hw.2.2.1
  have hz1 : ∀ a k', K1.1 ≤ a → K1.2.2 a k' = 0 := fun a k' h => (hw.2.2.2.2.2.1 a k' h).2
  have h82 : K1.1 = K0.1 + 82 := by rw [hK1]; rfl
  have hw : nc_W G (nc_kt nc_SM nc_RM K1 0 0) (nc_up (nc_up m3 (K0.1 + 0) 8 0) (K0.1 + 0) 9 0) H locs := by rw [nt_0]; exact hw
  refine nt_new (ci := 8) cx hw (by decide +kernel) rfl cl_L_10 wn_X8 wi_X8 ⟨Nat.le_of_ble_eq_true rfl, Nat.le_of_ble_eq_true rfl⟩ dL_law_8 (fun H hw => ?_)
  refine lv_dup hx hb dL_law_11 rfl ?_
  refine nc_runI cx hw li_L_12 (cn_X8_init_M l hB1 hz1 _) rfl hl.1 rfl (Nat.le_of_ble_eq_true rfl) ⟨rfl, rfl, Nat.le_of_ble_eq_true rfl, Nat.le_of_ble_eq_true rfl⟩ ⟨Nat.le_of_ble_eq_true rfl, Nat.le_of_ble_eq_true rfl⟩ dL_law_12 (fun H locs hw => ?_)
  refine lv_astore_n (lv' := [(2, .ref (K1.1 + 0)), (1, .ref (K0.1 + 0)), (0, .ref b)]) hx hb dL_law_15 rfl hl (by decide) rfl (fun ls hl => ?_)
  refine lv_iconst (v := 0) hx hb dL_law_16 (by decide) ?_
  refine lv_istore_n (lv' := [(3, .int 0), (2, .ref (K1.1 + 0)), (1, .ref (K0.1 + 0)), (0, .ref b)]) hx hb dL_law_17 rfl hl (by decide) rfl (fun ls hl => ?_)
  obtain ⟨hJ, hz⟩ := nc_J_0 hB hK1 hz1
  exact law_loop l hL C0 cx ⟨hG1, hG2⟩ 64 0 (by omega) (by omega) _ _ _ _ _ _ _ (Nat.le_of_ble_eq_true rfl) (Nat.le_of_ble_eq_true rfl) hJ (by rw [hz]; exact hinv (K1.1 + 0) (by omega)) hw (lv_sub hl [3, 2, 1, 0] rfl)
