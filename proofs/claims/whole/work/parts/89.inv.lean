-- what stays over the calls
def s_sym (S : nc_S) : Prop := ∀ a c, s_w S a c = s_w S c a
def nc_IMG (n X z : Nat) (mi : nc_Mem) : Prop := (z = 0 ∧ mi X 9 = 0) ∨ (¬ z = 0 ∧ ¬ mi X 9 = 0 ∧ ∃ S pl ps th, s_wf S n pl ps th ∧ vC mi (X + 35) = S ∧ vM mi z = S ∧ nc_lst S (X + 35) mi ∧ s_sym S)
def nc_INV (n X M z : Nat) (mi : nc_Mem) : Prop := ∃ A, aC mi X = A ∧ aM mi M = A ∧ nc_WF n A ∧ nc_lst A.1 (X + 1) mi ∧ s_sym A.1 ∧ nc_IMG n X z mi
theorem nc_IMG_fr {n n' X z : Nat} {mi mi' : nc_Mem} (h : nc_IMG n X z mi) (hn : n ≤ n') (hF : ∀ a k, (X + 35 ≤ a ∧ a < X + 52) ∨ (a = X ∧ k = 9) ∨ (¬ z = 0 ∧ z ≤ a ∧ a < z + 26) → mi' a k = mi a k) : nc_IMG n' X z mi' := by
  rcases h with ⟨h1, h2⟩ | ⟨h1, h2, S, pl, ps, th, h3, h4, h5, h6, h7⟩
  · exact Or.inl ⟨h1, (hF _ _ (by omega)).trans h2⟩
  · refine Or.inr ⟨h1, by rw [hF _ _ (by omega)]; exact h2, S, pl, ps, th, s_wf_mono h3 hn, ?_, ?_, fun a c ha hc => (hF _ _ (by omega)).trans (h6 a c ha hc), h7⟩
    · rw [← h4]
      exact vC_fr (fun a k a1 a2 a3 => hF a k (by omega))
    · rw [← h5]
      exact vM_fr (fun a k a1 a2 => hF a k (by omega))
section INV
variable {n X M z : Nat} {mi : nc_Mem}
theorem nc_INV_sim {g1 g2 : nc_Mem → Option (nc_Mem × Int32)} (hX : X + 82 ≤ M) (hz : ¬ z = 0 → M + 54 ≤ z) (inv : nc_INV n X M z mi) (h : ∀ A, nc_WF n A → nc_SIM n A (nc_lst A.1 (X + 1)) X M g1 g2) : ∃ r m1 m2, g1 mi = some (m1, r) ∧ g2 m1 = some (m2, r) ∧ nc_INV (n + 1) X M z m2 := by
  obtain ⟨A, c1, c2, c3, c4, c6, c5⟩ := inv
  obtain ⟨r, A', s1, s2, s3, s4⟩ := h A c3
  obtain ⟨m1, e1, v1, F1⟩ := s2 mi c1 c4
  obtain ⟨m2, e2, v2, F2⟩ := s3 m1 (by rw [← c2]; exact aM_fr (fun a k h1 h2 => F1 a k (by omega)))
  refine ⟨r, m1, m2, e1, e2, A', ?_, v2, s1, fun a c ha hc => ?_, fun a c => by rw [s4]; exact c6 a c, nc_IMG_fr c5 (Nat.le_succ n) (fun a k ha => (F2 a k (by omega)).trans (F1 a k (by omega)))⟩
  · rw [← v1]
    exact aC_fr (fun a k h1 h2 h3 h4 h5 => F2 a k (by omega))
  · rw [s_D_cg s4, F2 _ _ (by omega), F1 _ _ (by omega)]
    exact c4 a c ha hc
theorem nc_INV_simz {g1 : nc_Mem → Option (nc_Mem × Int32)} {g2 : nc_Mem → Nat → Nat → Option (nc_Mem × Int32)} {y nz tr : Nat} (hX : X + 82 ≤ M) (hz : ¬ z = 0 → M + 54 ≤ z) (htr : tr = if y = 0 then nz else y) (hM : M + 54 ≤ tr) (hap : ¬ z = 0 → z + 54 ≤ tr ∨ tr + 54 ≤ z) (inv : nc_INV n X M z mi) (h : ∀ A, nc_WF n A → nc_SIMz n A (nc_lst A.1 (X + 1)) X M g1 g2) : ∃ r m1 m2, g1 mi = some (m1, r) ∧ g2 m1 y nz = some (m2, r) ∧ nc_INV (n + 1) X M z m2 := by
  obtain ⟨A, c1, c2, c3, c4, c6, c5⟩ := inv
  obtain ⟨r, A', s1, s2, s3, s4⟩ := h A c3
  obtain ⟨m1, e1, v1, F1⟩ := s2 mi c1 c4
  obtain ⟨m2, e2, v2, F2⟩ := s3 m1 y nz tr htr (Or.inr hM) (by rw [← c2]; exact aM_fr (fun a k h1 h2 => F1 a k (by omega)))
  refine ⟨r, m1, m2, e1, e2, A', ?_, v2, s1, fun a c ha hc => ?_, fun a c => by rw [s4]; exact c6 a c, nc_IMG_fr c5 (Nat.le_succ n) (fun a k ha => (F2 a k (by omega) (by omega)).trans (F1 a k (by omega)))⟩
  · rw [← v1]
    exact aC_fr (fun a k h1 h2 h3 h4 h5 => F2 a k (by omega) (by omega))
  · rw [s_D_cg s4, F2 _ _ (by omega) (by omega), F1 _ _ (by omega)]
    exact c4 a c ha hc
theorem nc_INV_image {nz tr : Nat} (hX : X + 82 ≤ M) (htr : tr = if z = 0 then nz else z) (hM : M + 54 ≤ tr) (inv : nc_INV n X M z mi) : ∃ r m1 m2, f_X7_image mi X = some (m1, r) ∧ f_X8_image m1 M z nz = some (m2, r) ∧ nc_INV (n + 1) X M tr m2 := by
  obtain ⟨A, c1, c2, c3, c4, c6, c5⟩ := inv
  obtain ⟨⟨pl, ps, th, ws⟩, wl, wr⟩ := id c3
  obtain ⟨m1, e1, v1, L1, F1⟩ := C_become (mi := mi) (o := X + 35) (r := X + 1) (by omega)
  have G1 : ∀ a k, ¬ (X + 35 ≤ a ∧ a < X + 52) → ¬ (a = X ∧ k = 9) → nc_up m1 X 9 1 a k = mi a k := fun a k h1 h2 => (nc_up_ne h2).trans (F1 a k (by omega))
  have hM1 : aM (nc_up m1 X 9 1) M = A := by
    rw [← c2]
    exact aM_fr (fun a k h1 h2 => G1 a k (by omega) (by omega))
  obtain ⟨m2, e2, v2, F2⟩ := M_takeFrom (mi := if z = 0 then nc_up (nc_up m1 X 9 1) nz 5 4 else nc_up m1 X 9 1) (o := tr) (r := M) (by omega)
  have f0 : ∀ a k, (a < tr ∨ tr + 54 ≤ a) → (if z = 0 then nc_up (nc_up m1 X 9 1) nz 5 4 else nc_up m1 X 9 1) a k = nc_up m1 X 9 1 a k := fun a k ha => by
    split
    · rename_i c
      rw [if_pos c] at htr
      exact nc_up_na (by omega)
    · rfl
  have f2 : ∀ a k, (a < tr ∨ tr + 54 ≤ a) → m2 a k = nc_up m1 X 9 1 a k := fun a k ha => (F2 a k (by omega)).trans (f0 a k ha)
  have hM2 : aM m2 M = A := by
    rw [← hM1]
    exact aM_fr (fun a k h1 h2 => f2 a k (by omega))
  have hC2 : aC m2 X = A := by
    rw [← c1]
    exact aC_fr (fun a k h1 h2 h3 h4 h5 => (f2 a k (by omega)).trans (G1 a k (by omega) (by omega)))
  refine ⟨s_th A.1, nc_up m1 X 9 1, m2, ?_, ?_, A, hC2, hM2, nc_WF_mono c3 (Nat.le_succ n), fun a c ha hc => ?_, c6, Or.inr ⟨by omega, ?_, A.1, pl, ps, th, s_wf_mono ws (Nat.le_succ n), ?_, ?_, fun a c ha hc => ?_, c6⟩⟩
  · unfold f_X7_image
    rw [e1]
    simp only [nc_some_bind, nc_let_eq]
    rw [G1 _ _ (by omega) (by omega), C_th c1]
  · unfold f_X8_image
    simp only [nc_let_eq]
    rw [show (if z = 0 then nz + 0 else z) = tr from htr.symm]
    rw [show f_X8_takeFrom (if z = 0 then nc_up (nc_up m1 X 9 1) (nz + 0) 5 4 else nc_up m1 X 9 1) tr M = some m2 from e2]
    simp only [nc_some_bind]
    rw [M_th hM2]
  · rw [f2 _ _ (by omega), G1 _ _ (by omega) (by omega)]
    exact c4 a c ha hc
  · rw [f2 _ _ (by omega), nc_up_same]
    decide
  · rw [← C_v c1, ← v1]
    exact vC_fr (fun a k h1 h2 h3 => (f2 a k (by omega)).trans (nc_up_na (by omega)))
  · rw [v2, ← M_v hM1]
    exact vM_fr (fun a k h1 h2 => f0 a k (by omega))
  · rw [f2 _ _ (by omega), nc_up_na (by omega), L1 _ (by omega)]
    exact c4 a c ha hc
theorem nc_INV_on (hX : X + 82 ≤ M) (hz : ¬ z = 0 → M + 54 ≤ z) (inv : nc_INV n X M z mi) : ∃ r m1 m2, f_X7_on mi X = some (m1, r) ∧ f_X8_on m1 M z = some (m2, r) ∧ nc_INV (n + 1) X M z m2 := by
  obtain ⟨A, c1, c2, c3, c4, c6, c5⟩ := id inv
  rcases id c5 with ⟨h1, h2⟩ | ⟨h1, h2, S, pl, ps, th, h3, h4, h5, h6, h7⟩
  · have e0 : ∀ mi', mi' X 9 = 0 → f_X7_on mi' X = Option.bind (f_X7_refuse mi' X (-3)) (fun q => some (q.1, q.2)) := fun mi' h => by
      unfold f_X7_on
      rw [if_pos h]
    have e0' : ∀ mi', f_X8_on mi' M z = Option.bind (f_X8_refuse mi' M (-3)) (fun q => some (q.1, q.2)) := fun mi' => by
      unfold f_X8_on
      rw [if_pos h1]
    obtain ⟨r, m1, m2, k1, k2, k3⟩ := nc_INV_sim (g1 := fun mi' => Option.bind (f_X7_refuse mi' X (-3)) (fun q => some (q.1, q.2))) (g2 := fun mi' => Option.bind (f_X8_refuse mi' M (-3)) (fun q => some (q.1, q.2))) hX hz inv (fun A wf => nc_SIM_ref wf 3 (by omega) (fun mi h hl => rfl) (fun mi h => rfl))
    exact ⟨r, m1, m2, (e0 mi h2).trans k1, (e0' m1).trans k2, k3⟩
  · obtain ⟨m1, e1, v1, L1, F1⟩ := C_become (mi := mi) (o := X + 1) (r := X + 35) (by omega)
    have hzM := hz h1
    obtain ⟨m2, e2, v2, F2⟩ := M_takeFrom (mi := m1) (o := M) (r := z) (by omega)
    have v5 : vM m1 z = S := by
      rw [← h5]
      exact vM_fr (fun a k a1 a2 => F1 a k (by omega))
    have hC1 : aC m1 X = (S, A.2) := by
      have q : (aC mi X).2 = A.2 := by rw [c1]
      rw [← q]
      have q1 : vC m1 (X + 1) = S := by rw [v1, h4]
      simp only [aC, Prod.mk.injEq]
      refine ⟨q1, ⟨?_, ?_⟩, ⟨?_, ?_⟩, ?_⟩ <;> (try funext i) <;> (try split) <;> first | rfl | exact F1 _ _ (by omega)
    have hM2 : aM m2 M = (S, A.2) := by
      have q : (aM mi M).2 = A.2 := by rw [c2]
      rw [← q]
      have q1 : vM m2 M = S := by rw [v2, v5]
      simp only [aM, Prod.mk.injEq]
      refine ⟨q1, ⟨?_, ?_⟩, ⟨?_, ?_⟩, ?_⟩ <;> (try funext i) <;> (try split) <;> first | rfl | exact (F2 _ _ (by omega)).trans (F1 _ _ (by omega))
    have hC2 : aC m2 X = (S, A.2) := by
      rw [← hC1]
      exact aC_fr (fun a k a1 a2 a3 a4 a5 => F2 a k (by omega))
    refine ⟨s_th S, m1, m2, ?_, ?_, (S, A.2), hC2, hM2, ⟨⟨pl, ps, th, s_wf_mono h3 (Nat.le_succ n)⟩, c3.2⟩, fun a c ha hc => ?_, h7, nc_IMG_fr c5 (Nat.le_succ n) (fun a k ha => (F2 a k (by omega)).trans (F1 a k (by omega)))⟩
    · unfold f_X7_on
      rw [if_neg h2, e1]
      simp only [nc_some_bind]
      rw [C_th hC1]
    · unfold f_X8_on
      rw [if_neg h1, e2]
      simp only [nc_some_bind]
      rw [M_th hM2]
    · rw [F2 _ _ (by omega), L1 _ (by omega)]
      exact h6 a c ha hc
end INV
