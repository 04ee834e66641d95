-- EACH and PAY: both
theorem e_P_z {D : nc_De} {ps : Nat} (hb : e_bd D ps) : ∀ r p T, p + r ≤ ps → e_V D r p T = 0 → ∀ i, e_P D r p T i = -9
  | 0, _, _, _, _, _ => rfl
  | r + 1, p, T, h, e, i => by
    have v := e_V_b hb r (p + 1) T (by omega)
    rw [e_P_s]
    rcases e_c_p D r p T with ⟨ec, ev⟩ | ⟨ev, -⟩
    · rw [ec]
      simp only
      rw [e_P_z hb r (p + 1) T (by omega) (by omega) i]
      split <;> rfl
    · omega
theorem nc_SIM_ob2 {n : Nat} {A : nc_A} {LS : nc_Mem → Prop} {X M : Nat} {g1 g2 : nc_Mem → Option (nc_Mem × Int32)} (wf : nc_WF n A) (r : Int32) (h1 : ∀ mi, aC mi X = A → LS mi → ∃ m', g1 mi = some (m', r) ∧ ∀ a k, ¬ (X + 55 ≤ a ∧ a < X + 80) → m' a k = mi a k) (h2 : ∀ mi, aM mi M = A → ∃ m', g2 mi = some (m', r) ∧ ∀ a k, ¬ ((M + 26 ≤ a ∧ a < M + 54) ∨ (a = M ∧ k = 26)) → m' a k = mi a k) : nc_SIM n A LS X M g1 g2 := by
  refine ⟨r, A, nc_WF_mono wf (by omega), fun mi h hl => ?_, fun mi h => ?_, rfl⟩
  · obtain ⟨m', e, F⟩ := h1 mi h hl
    refine ⟨m', e, ?_, fun a k hc => F a k (by omega)⟩
    rw [← h]
    exact aC_fr (fun a k h1 h2 h3 h4 h5 => F a k (by omega))
  · obtain ⟨m', e, F⟩ := h2 mi h
    refine ⟨m', e, ?_, fun a k hc => F a k (by omega)⟩
    rw [← h]
    exact aM_fr2 (fun a k h1 h2 h3 => F a k (by omega))
section EACH
variable {n : Nat} {A : nc_A} {X M pl ps th : Nat} {m : nc_Mem}
theorem M_eachBy (h : aM m M = A) (ws : s_wf A.1 n pl ps th) (a4 : Int32) : ∃ m', f_X8_eachBy m M a4 = some (m', iI (e_V (s_De A.1 th a4) ps 0 0)) ∧ (∀ q, q < ps → m' (M + 53) q = e_P (s_De A.1 th a4) ps 0 0 q) ∧ ∀ a k, ¬ ((M + 26 ≤ a ∧ a < M + 54) ∨ (a = M ∧ k = 26)) → m' a k = m a k := by
  obtain ⟨w1, w2, w3, w4, w5, w6, w7, w8, w9, w10, w11⟩ := id ws
  obtain ⟨m1, e1, f1, F1⟩ := M_findFar (M_v h) (s_wf_ww ws) w1 w3
  have hps : ∀ m2 : nc_Mem, (∀ a k, ¬ ((M + 26 ≤ a ∧ a < M + 54) ∨ (a = M ∧ k = 26)) → m2 a k = m a k) → m2 M 7 = nI ps := fun m2 hF => (hF _ _ (by omega)).trans ((M_ps h).trans w4)
  obtain ⟨m2, ⟨i1, i2⟩, e2⟩ := nc_forI (z := fun _ _ => none) (B := B_X8_eachBy_11 M (fun mi4 => Option.bind (f_X8_seek 8 M mi4 0 0 0 a4) (fun q5 => some (q5, (q5 M 26))))) (s := 0) (n := 200) (x := nc_up m1 M 26 0) (fun j m2 => (∀ i, i < j → m2 (M + 53) i = -9) ∧ ∀ a k, ¬ a = M + 53 → m2 a k = nc_up m1 M 26 0 a k) ps (fun m2 => Option.bind (f_X8_seek 8 M m2 0 0 0 a4) (fun q5 => some (q5, (q5 M 26)))) (fun rc j m2 _ hj ⟨i1, i2⟩ => by
      refine ⟨nc_up m2 (M + 53) j (-9), ⟨fun i hi => ?_, fun a k ha => (nc_up_na ha).trans (i2 a k ha)⟩, ?_⟩
      · by_cases c : i = j
        · rw [c, nc_up_same]
        · rw [nc_up_ne (by omega)]
          exact i1 i (by omega)
      · unfold B_X8_eachBy_11
        simp only [nc_let_eq]
        rw [hps m2 (fun a k ha => (i2 a k (by omega)).trans ((nc_up_ne (by omega)).trans (F1 a k (by omega)))), if_neg (nI_ge hj (by omega)), nc_at_nI (by omega) (by omega), nI_1]) (fun rc m2 ⟨i1, i2⟩ => by
      unfold B_X8_eachBy_11
      rw [hps m2 (fun a k ha => (i2 a k (by omega)).trans ((nc_up_ne (by omega)).trans (F1 a k (by omega)))), if_pos (nI_le (Nat.le_refl _) (by omega))]) (Nat.zero_le _) (by omega) ⟨fun i hi => absurd hi (Nat.not_lt_zero _), fun _ _ _ => rfl⟩
  have G2 : ∀ a k, ¬ ((M + 28 ≤ a ∧ a < M + 35) ∨ a = M + 53 ∨ (a = M ∧ k = 26)) → m2 a k = m a k := fun a k ha => (i2 a k (by omega)).trans ((nc_up_ne (by omega)).trans (F1 a k (by omega)))
  have h2 : aM m2 M = A := by
    rw [← h]
    exact aM_fr2 (fun a k h1 h2 h3 => G2 a k (by omega))
  have f2 : nc_fr_far A.1 M pl m2 := fun a c ha hc => (i2 _ _ (by omega)).trans ((nc_up_na (by omega)).trans (f1 a c ha hc))
  obtain ⟨m3, e3, F3, b3, v3, -⟩ := M_seek (a4 := a4) h2 f2 ws rfl ps 8 0 0 0 0 m2 (by omega) (by omega) (by omega) (by omega) (by omega) (by omega) (by omega) (fun _ _ _ => rfl) (by rw [i2 _ _ (by omega), nc_up_same, iI_0])
  have hbd := s_De_bd ws a4
  generalize s_De A.1 th a4 = D at b3 v3 hbd ⊢
  have vb := e_V_b hbd ps 0 0 (by omega)
  rw [Int.zero_add] at b3 v3
  refine ⟨m3, ?_, fun q hq => ?_, fun a k ha => (F3 a k (by omega)).trans (G2 a k (by omega))⟩
  · have e4 : m3 M 26 = iI (e_V D ps 0 0) := by
      rw [b3]
      split
      · rfl
      · rw [show e_V D ps 0 0 = 0 by omega]
    have e5 : f_X8_seek 8 M m2 0 0 0 a4 = some m3 := by
      rw [iI_0] at e3
      exact e3
    unfold f_X8_eachBy
    rw [e1, nc_some_bind]
    simp only [nc_let_eq]
    refine Eq.trans e2 ?_
    rw [e5, nc_some_bind, e4]
  · have e4 := congrFun v3 q
    unfold nc_vB at e4
    rw [if_pos hq] at e4
    rw [e4]
    by_cases c : 0 < e_V D ps 0 0
    · rw [if_pos c]
      unfold nc_pB
      rw [if_pos hq, if_neg (Nat.not_lt_zero _)]
    · rw [if_neg c]
      show (if q < ps then m2 (M + 53) q else 0) = _
      rw [if_pos hq, i1 q hq, e_P_z hbd ps 0 0 (by omega) (by omega) q]
theorem sim_each (wf : nc_WF n A) (a : Int32) : nc_SIM n A (nc_lst A.1 (X + 1)) X M (fun mi => f_X7_each mi X a) (fun mi => f_X8_each mi M a) := by
  obtain ⟨⟨pl, ps, th, ws⟩, wl, wr⟩ := id wf
  obtain ⟨w1, w2, w3, w4, w5, w6, w7, w8, w9, w10, w11⟩ := id ws
  rcases nc_among a (n := ps) (by omega) with ⟨q, hq, rfl⟩ | ha
  · have hq1 : ¬ nI q = -1 := fun e => nI_pos (show q < 2 ^ 31 by omega) (by rw [e]; decide)
    refine nc_SIM_ob2 wf (e_P (s_De A.1 th (-9)) ps 0 0 q) (fun mi h hl => ?_) (fun mi h => ?_)
    · obtain ⟨m1, e1, g1, b1, F1⟩ := C_bestSum h hl ws (-9)
      refine ⟨m1, ?_, fun a k ha => F1 a k (by omega)⟩
      show f_X7_each mi X _ = _
      unfold f_X7_each
      simp only [nc_let_eq]
      rw [if_neg hq1, C_isP ((C_ps h).trans w4) w5 hq, if_neg (by decide), e1, nc_some_bind]
      simp only
      rw [if_pos (show (0 : Int32) ≤ nI q from nI_le (a := 0) (Nat.zero_le _) (by omega)), C_thingOf (s_De_bd ws (-9)) w5 (s_De_1 _ _ _) w7 ((F1 _ _ (by omega)).trans ((C_th h).trans w6)) ((F1 _ _ (by omega)).trans ((C_ps h).trans w4)) g1 b1 hq, nc_some_bind]
    · obtain ⟨m1, e1, p1, F1⟩ := M_eachBy h ws (-9)
      refine ⟨m1, ?_, F1⟩
      show f_X8_each mi M _ = _
      unfold f_X8_each
      simp only [nc_let_eq]
      rw [if_neg hq1, M_isP ((M_ps h).trans w4) w5 hq, nc_some_bind, if_neg (by decide), e1, nc_some_bind]
      simp only
      rw [if_neg hq1, nc_at_nI (by omega) (by omega), p1 q hq]
  · by_cases c : a = -1
    · subst c
      refine nc_SIM_ob2 wf (iI (e_V (s_De A.1 th (-9)) ps 0 0)) (fun mi h hl => ?_) (fun mi h => ?_)
      · obtain ⟨m1, e1, g1, b1, F1⟩ := C_bestSum h hl ws (-9)
        refine ⟨m1, ?_, fun a k ha => F1 a k (by omega)⟩
        show f_X7_each mi X _ = _
        unfold f_X7_each
        simp only [nc_let_eq]
        rw [if_pos trivial, e1, nc_some_bind]
        rfl
      · obtain ⟨m1, e1, p1, F1⟩ := M_eachBy h ws (-9)
        refine ⟨m1, ?_, F1⟩
        show f_X8_each mi M _ = _
        unfold f_X8_each
        simp only [nc_let_eq]
        rw [if_pos trivial, e1, nc_some_bind]
        rfl
    · refine nc_SIM_ref wf 1 (by omega) (fun mi h hl => ?_) (fun mi h => ?_)
      · show f_X7_each mi X a = _
        unfold f_X7_each
        simp only [nc_let_eq]
        rw [if_neg c, C_isPn ((C_ps h).trans w4) ha, if_pos rfl]
        rfl
      · show f_X8_each mi M a = _
        unfold f_X8_each
        simp only [nc_let_eq]
        rw [if_neg c, M_isPn ((M_ps h).trans w4) w5 ha]
        rfl
theorem sim_pay (wf : nc_WF n A) (a : Int32) : nc_SIM n A (nc_lst A.1 (X + 1)) X M (fun mi => f_X7_pay mi X a) (fun mi => f_X8_pay mi M a) := by
  obtain ⟨⟨pl, ps, th, ws⟩, wl, wr⟩ := id wf
  obtain ⟨w1, w2, w3, w4, w5, w6, w7, w8, w9, w10, w11⟩ := id ws
  rcases nc_among a (n := ps) (by omega) with ⟨q, hq, rfl⟩ | ha
  · refine nc_SIM_ob2 wf (iI (e_V (s_De A.1 th (-9)) ps 0 0) - iI (e_V (s_De A.1 th (nI q)) ps 0 0)) (fun mi h hl => ?_) (fun mi h => ?_)
    · obtain ⟨m1, e1, g1, b1, F1⟩ := C_bestSum h hl ws (-9)
      have h1 : aC m1 X = A := by
        rw [← h]
        exact aC_fr (fun a k h1 h2 h3 h4 h5 => F1 a k (by omega))
      obtain ⟨m2, e2, g2, b2, F2⟩ := C_bestSum h1 (fun a c ha hc => (F1 _ _ (by omega)).trans (hl a c ha hc)) ws (nI q)
      refine ⟨m2, ?_, fun a k ha => (F2 a k (by omega)).trans (F1 a k (by omega))⟩
      show f_X7_pay mi X _ = _
      unfold f_X7_pay
      rw [C_isP ((C_ps h).trans w4) w5 hq, if_neg (by decide), e1, nc_some_bind]
      simp only
      rw [e2, nc_some_bind]
    · obtain ⟨m1, e1, p1, F1⟩ := M_eachBy h ws (-9)
      have h1 : aM m1 M = A := by
        rw [← h]
        exact aM_fr2 (fun a k h1 h2 h3 => F1 a k (by omega))
      obtain ⟨m2, e2, p2, F2⟩ := M_eachBy h1 ws (nI q)
      refine ⟨m2, ?_, fun a k ha => (F2 a k ha).trans (F1 a k ha)⟩
      show f_X8_pay mi M _ = _
      unfold f_X8_pay
      rw [M_isP ((M_ps h).trans w4) w5 hq, nc_some_bind, if_neg (by decide), e1, nc_some_bind]
      simp only
      rw [e2, nc_some_bind]
  · refine nc_SIM_ref wf 1 (by omega) (fun mi h hl => ?_) (fun mi h => ?_)
    · show f_X7_pay mi X a = _
      unfold f_X7_pay
      rw [C_isPn ((C_ps h).trans w4) ha, if_pos rfl]
      rfl
    · show f_X8_pay mi M a = _
      unfold f_X8_pay
      rw [M_isPn ((M_ps h).trans w4) w5 ha]
      rfl
end EACH
