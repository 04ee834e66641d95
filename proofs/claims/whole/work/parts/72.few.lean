-- how few
def s_int (S : nc_S) (pl ps : Nat) (rule : Int32) (w : nc_Wy) (j : Nat) : Int32 := if s_soon S pl ps rule j (-9) w = -9 then 0 else if s_T S j 5 < s_soon S pl ps rule j (-9) w then 0 else 1
theorem s_int_01 (S : nc_S) (pl ps : Nat) (rule : Int32) (w : nc_Wy) (j : Nat) : s_int S pl ps rule w j = 0 ∨ s_int S pl ps rule w j = 1 := by
  unfold s_int
  split
  · exact Or.inl rfl
  · split
    · exact Or.inl rfl
    · exact Or.inr rfl
abbrev s_str (S : nc_S) (j : Nat) : Prop := s_D S 0 (s_cl (s_T S j 2)) + s_D S (s_cl (s_T S j 2)) (s_cl (s_T S j 3)) ≤ s_cl (s_T S j 5)
def s_few (S : nc_S) (pl ps : Nat) : Nat → Nat → Int32 → Int32
  | 0, _, x => x
  | r + 1, j, x => if s_int S pl ps (s_lw S) (s_w0 S) j = 0 then (if s_str S j then s_few S pl ps r (j + 1) (x + 1) else -9) else s_few S pl ps r (j + 1) x
section FEW
variable {S : nc_S} {n pl ps th t : Nat} {X M : Nat} {m : nc_Mem} {w : nc_Wy}
theorem C_int {rule : Int32} (cx : nc_CX S pl ps rule (-9) w X m) (ws : s_wf S n pl ps th) (ok : s_wok pl ps w) (ht : t < th) : ∃ m', f_X2_isInTime m X (nI t) = some (m', s_int S pl ps rule w t) ∧ nc_CX S pl ps rule (-9) w X m' ∧ ∀ a k, ¬ (a = X + 57 ∧ k < 7) → m' a k = m a k := by
  have h7 := ws.2.2.2.2.2.2.1
  obtain ⟨m2, e2, -, F2⟩ := C_soon cx ws ok ht
  have c2 : nc_CX S pl ps rule (-9) w X m2 := nc_CX_fr ws.2.2.2.2.1 cx (fun a k h => F2 a k (by omega))
  refine ⟨m2, ?_, c2, F2⟩
  unfold f_X2_isInTime s_int
  rw [e2]
  simp only [nc_some_bind]
  rw [nc_at_nI (by omega) (by omega), show m2 (X + 1 + 11 + t) 5 = s_T S t 5 from (vC_T (by omega) (by omega)).trans (by rw [c2.1])]
  split
  · rfl
  · split <;> rfl
theorem M_int (mx : nc_MY S pl ps w M m) (ws : s_wf S n pl ps th) (ok : s_wok pl ps w) (ht : t < th) : ∃ m', f_X8_isInTime m M (nI t) = some (m', s_int S pl ps (s_lw S) w t) ∧ nc_MY S pl ps w M m' ∧ ∀ a k, ¬ (a = M + 50 ∧ k < 7) → m' a k = m a k := by
  have h7 := ws.2.2.2.2.2.2.1
  obtain ⟨m2, -, e2, -, F2⟩ := M_soon (al := -9) mx ws ok ws.2.2.2.2.2.2.2.1 ht
  have c2 : nc_MY S pl ps w M m2 := nc_MY_fr ws.2.2.2.2.1 mx (fun a k h => F2 a k (by omega))
  refine ⟨m2, ?_, c2, F2⟩
  unfold f_X8_isInTime s_int
  rw [nc_MY_lw mx, e2]
  simp only [nc_some_bind]
  rw [nc_at_nI (by omega) (by omega), show m2 (M + 19 + 1 + t) 5 = s_T S t 5 from (vM_T (by omega) (by omega)).trans (by rw [c2.1])]
  split
  · rfl
  · split <;> rfl
end FEW
section FEW2
variable {n : Nat} {A : nc_A} {X M : Nat}
theorem sim_fewest (wf : nc_WF n A) : nc_SIM n A (nc_lst A.1 (X + 1)) X M (fun mi => f_X7_fewest mi X) (fun mi => f_X8_fewest mi M) := by
  obtain ⟨⟨pl, ps, th, ws⟩, wl, wr⟩ := id wf
  obtain ⟨w1, w2, w3, w4, w5, w6, w7, w8, w9, w10, w11⟩ := id ws
  refine nc_SIM_ob wf (s_few A.1 pl ps th 0 0) (fun mi h hl => ?_) (fun mi h => ?_)
  · obtain ⟨m1, e1, cx, hl1, F1⟩ := C_recall (C_v h) hl ws
    have key := nc_loop_ind (z := fun _ _ _ => none) (B := B_X7_fewest_11 X) (fun r κ => ∀ j x m, j + r = th → (∀ a k, ¬ (a = X + 57 ∧ k < 7) → m a k = m1 a k) → ∃ m', κ x (nI j) m = some (m', s_few A.1 pl ps r j x) ∧ ∀ a k, ¬ (a = X + 57 ∧ k < 7) → m' a k = m1 a k) (fun r κ ih j x m hj hF => by
      have cm : nc_CX A.1 pl ps (s_lw A.1) (-9) (s_w0 A.1) X m := nc_CX_fr w5 cx (fun a k h => hF a k (by omega))
      unfold B_X7_fewest_11
      cases r with
      | zero =>
        have : j = th := by omega
        subst this
        refine ⟨m, ?_, hF⟩
        rw [nc_CX_th cm ws, if_pos (nI_le (Nat.le_refl _) (by omega))]
        rfl
      | succ r =>
        have hjt : j < th := by omega
        obtain ⟨m2, e2, c2, F2⟩ := C_int cm ws (s_w0_ok ws) hjt
        have hF2 : ∀ a k, ¬ (a = X + 57 ∧ k < 7) → m2 a k = m1 a k := fun a k ha => (F2 a k ha).trans (hF a k ha)
        obtain ⟨-, -, ⟨ta, hta, eta⟩, ⟨tb, htb, etb⟩, -, ⟨y, hy, ey⟩, -⟩ := w11 j hjt
        have hl2 : nc_lst A.1 (X + 1) m2 := fun a c ha hc => (hF2 _ _ (by omega)).trans (hl1 a c ha hc)
        have hp4 : m2 (X + 1) 4 = nI pl := (congrArg s_pl c2.1).trans w1
        have r2 : m2 (X + 1 + 11 + j) 2 = nI ta := ((vC_T (by omega) (by omega)).trans (by rw [c2.1])).trans eta
        have r3 : m2 (X + 1 + 11 + j) 3 = nI tb := ((vC_T (by omega) (by omega)).trans (by rw [c2.1])).trans etb
        have r5 : m2 (X + 1 + 11 + j) 5 = nI y := ((vC_T (by omega) (by omega)).trans (by rw [c2.1])).trans ey
        have l1 : f_X5_leastBetween m2 (X + 1) 0 (nI ta) = some (nI (s_D A.1 0 ta)) := C_least (a := 0) hl2 hp4 w3 (by omega) hta
        have l2 := C_least (a := ta) (c := tb) hl2 hp4 w3 hta htb
        have d1 := s_D_le (s_wf_ww ws) 0 ta
        have d2 := s_D_le (s_wf_ww ws) ta tb
        have eS : s_str A.1 j ↔ s_D A.1 0 ta + s_D A.1 ta tb ≤ y := by
          unfold s_str
          rw [eta, etb, ey, s_cl_nI (by omega), s_cl_nI (by omega), s_cl_nI (by omega)]
        have est : f_X5_strangerCanBring m2 (X + 1) (nI j) = some (if s_str A.1 j then 1 else 0) := by
          unfold f_X5_strangerCanBring
          rw [nc_at_nI (by omega) (by omega), r2, r3, r5, l1, l2]
          simp only [nc_some_bind]
          rw [nI_add]
          by_cases c : s_str A.1 j
          · rw [if_pos c, if_neg (nI_nlt (eS.mp c) (by omega))]
          · rw [if_neg c, if_pos (nI_lt (Nat.not_le.mp (fun z => c (eS.mpr z))) (by omega))]
        rw [nc_CX_th cm ws, if_neg (nI_ge hjt (by omega)), e2]
        simp only [nc_some_bind, nc_let_eq]
        rw [est, nI_1]
        simp only [nc_some_bind]
        show ∃ m', _ = some (m', if s_int A.1 pl ps (s_lw A.1) (s_w0 A.1) j = 0 then (if s_str A.1 j then s_few A.1 pl ps r (j + 1) (x + 1) else -9) else s_few A.1 pl ps r (j + 1) x) ∧ _
        by_cases c0 : s_int A.1 pl ps (s_lw A.1) (s_w0 A.1) j = 0
        · rw [if_pos c0, if_pos c0]
          by_cases c : s_str A.1 j
          · rw [if_pos c, if_pos c, if_neg (by decide)]
            exact ih r (by omega) (j + 1) (x + 1) m2 (by omega) hF2
          · rw [if_neg c, if_neg c, if_pos rfl]
            exact ⟨m2, rfl, hF2⟩
        · rw [if_neg c0, if_neg c0]
          exact ih r (by omega) (j + 1) x m2 (by omega) hF2) 200 th (by omega) 0 0 m1 (by omega) (fun _ _ _ => rfl)
    obtain ⟨m2, e2, F2⟩ := key
    refine ⟨m2, ?_, fun a k ha => (F2 a k (by omega)).trans (F1 a k (by omega))⟩
    show f_X7_fewest mi X = _
    unfold f_X7_fewest
    rw [e1]
    exact e2
  · obtain ⟨m1, e1, mx, hf, F1⟩ := M_ways h ws
    have key := nc_loop_ind (z := fun _ _ _ => none) (B := B_X8_fewest_8 M) (fun r κ => ∀ j x m, j + r = th → (∀ a k, ¬ (a = M + 50 ∧ k < 7) → m a k = m1 a k) → ∃ m', κ x (nI j) m = some (m', s_few A.1 pl ps r j x) ∧ ∀ a k, ¬ (a = M + 50 ∧ k < 7) → m' a k = m1 a k) (fun r κ ih j x m hj hF => by
      have cm : nc_MY A.1 pl ps (s_w0 A.1) M m := nc_MY_fr w5 mx (fun a k h => hF a k (by omega))
      unfold B_X8_fewest_8
      cases r with
      | zero =>
        have : j = th := by omega
        subst this
        refine ⟨m, ?_, hF⟩
        rw [nc_MY_th cm ws, if_pos (nI_le (Nat.le_refl _) (by omega))]
        rfl
      | succ r =>
        have hjt : j < th := by omega
        obtain ⟨m2, e2, c2, F2⟩ := M_int cm ws (s_w0_ok ws) hjt
        have hF2 : ∀ a k, ¬ (a = M + 50 ∧ k < 7) → m2 a k = m1 a k := fun a k ha => (F2 a k ha).trans (hF a k ha)
        obtain ⟨-, -, ⟨ta, hta, eta⟩, ⟨tb, htb, etb⟩, -, ⟨y, hy, ey⟩, -⟩ := w11 j hjt
        have r2 : m2 (M + 19 + 1 + j) 2 = nI ta := ((vM_T (by omega) (by omega)).trans (by rw [c2.1])).trans eta
        have r3 : m2 (M + 19 + 1 + j) 3 = nI tb := ((vM_T (by omega) (by omega)).trans (by rw [c2.1])).trans etb
        have r5 : m2 (M + 19 + 1 + j) 5 = nI y := ((vM_T (by omega) (by omega)).trans (by rw [c2.1])).trans ey
        have l1 : m2 (M + 27 + 1 + 0) ta = nI (s_F A.1 pl 0 ta) := (hF2 _ _ (by omega)).trans (hf 0 ta (by omega) hta)
        have l2 : m2 (M + 27 + 1 + ta) tb = nI (s_F A.1 pl ta tb) := (hF2 _ _ (by omega)).trans (hf ta tb hta htb)
        have d1 := s_DF (s_wf_ww ws) w3 (show 0 < pl by omega) hta
        have d2 := s_DF (s_wf_ww ws) w3 hta htb
        have eS : s_str A.1 j ↔ s_F A.1 pl 0 ta + s_F A.1 pl ta tb ≤ y := by
          unfold s_str
          rw [eta, etb, ey, s_cl_nI (by omega), s_cl_nI (by omega), s_cl_nI (by omega)]
          omega
        rw [nc_MY_th cm ws, if_neg (nI_ge hjt (by omega)), e2]
        simp only [nc_some_bind, nc_let_eq]
        rw [nc_at_nI (by omega) (by omega), r2, r3, r5, nc_at_nI (by omega) (by omega), nc_at_nI (by omega) (by omega), l1, l2, nI_add, nI_1]
        show ∃ m', _ = some (m', if s_int A.1 pl ps (s_lw A.1) (s_w0 A.1) j = 0 then (if s_str A.1 j then s_few A.1 pl ps r (j + 1) (x + 1) else -9) else s_few A.1 pl ps r (j + 1) x) ∧ _
        by_cases c0 : s_int A.1 pl ps (s_lw A.1) (s_w0 A.1) j = 0
        · rw [if_pos c0, if_pos c0]
          by_cases c : s_str A.1 j
          · rw [if_pos c, if_pos (nI_le (eS.mp c) (by omega))]
            exact ih r (by omega) (j + 1) (x + 1) m2 (by omega) hF2
          · rw [if_neg c, if_neg (nI_ge (Nat.not_le.mp (fun z => c (eS.mpr z))) (by omega))]
            exact ⟨m2, rfl, hF2⟩
        · rw [if_neg c0, if_neg c0]
          exact ih r (by omega) (j + 1) x m2 (by omega) hF2) 200 th (by omega) 0 0 m1 (by omega) (fun _ _ _ => rfl)
    obtain ⟨m2, e2, F2⟩ := key
    refine ⟨m2, ?_, fun a k ha => (F2 a k (by omega)).trans (F1 a k (by omega))⟩
    show f_X8_fewest mi M = _
    unfold f_X8_fewest
    rw [e1]
    exact e2
end FEW2
