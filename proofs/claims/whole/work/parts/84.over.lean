theorem nc_back : ∀ N i : Fin 8, i.1 < N.1 → nI N.1 - 1 - nI i.1 = nI (N.1 - 1 - i.1) := by decide
section OVER
variable {n : Nat} {A : nc_A} {X M : Nat}
theorem sim_over (wf : nc_WF n A) (a b : Int32) : nc_SIM n A (nc_lst A.1 (X + 1)) X M (fun mi => f_X7_over mi X a b) (fun mi => f_X8_over mi M a b) := by
  refine sim_t (g1 := fun mi a => f_X7_over mi X a b) (g2 := fun mi a => f_X8_over mi M a b) wf a (fun mi th e hs ha => ?_) (fun mi th e hs ha => ?_) (fun pl ps th t ws ht ea => ?_)
  · show f_X7_over mi X a b = _
    unfold f_X7_over
    rw [C_isTn e ha, if_pos rfl]
    rfl
  · show f_X8_over mi M a b = _
    unfold f_X8_over
    rw [M_isTn e hs ha]
    rfl
  · subst ea
    obtain ⟨w1, w2, w3, w4, w5, w6, w7, w8, w9, w10, w11⟩ := id ws
    by_cases hb : -1 ≤ b
    · obtain ⟨-, -, ⟨ta, hta, eta⟩, ⟨tb, htb, etb⟩, -⟩ := w11 t ht
      let E := s_E A.1 pl ps (s_lw A.1) t (-9) (s_w0 A.1)
      let s := s_sv A.1 pl ps (s_lw A.1) t (-9) (s_w0 A.1)
      let N := s_oN E s (s_cl (s_T A.1 t 2)) (s_cl (s_T A.1 t 3))
      by_cases c : s_sv A.1 pl ps (s_lw A.1) t (-9) (s_w0 A.1) (s_cl (s_T A.1 t 3)) < 100000
      · have hsn : ¬ s_soon A.1 pl ps (s_lw A.1) t (-9) (s_w0 A.1) = -9 := by
          unfold s_soon
          rw [if_pos c]
          exact nI_ne9 (by omega)
        have hN7 : N < 7 := by
          have hs0 : ∀ q, ¬ q = s_cl (s_T A.1 t 2) → s_s0 A.1 t q = 100000 := fun q hq => ov_s hq
          exact (s_oN_p (ov_X ws (s_w0_ok ws)) (ov_M ws (s_w0_ok ws)) (ov_I ws (s_w0_ok ws)) hs0 (ov_b ws (s_w0_ok ws)) (by rw [etb, s_cl_nI (by omega)]; omega) c).1
        have ex : ∃ r : Int32, (b = -1 ∧ r = nI N) ∨ (∃ i, b = nI i ∧ i < N ∧ r = nI (s_op E s (s_oq E s (s_cl (s_T A.1 t 3)) (N - 1 - i)))) ∨ (0 ≤ b ∧ nI N ≤ b ∧ r = -9) := by
          by_cases c1 : b = -1
          · exact ⟨_, Or.inl ⟨c1, rfl⟩⟩
          · have hb0 : ¬ b < 0 := fun z => c1 (by
              rw [Int32.le_iff_toInt_le] at hb
              rw [Int32.lt_iff_toInt_lt] at z
              rw [← Int32.toInt_inj]
              have e1 : (-1 : Int32).toInt = -1 := by decide
              have e2 : (0 : Int32).toInt = 0 := by decide
              omega)
            rcases nc_among b (n := N) (by omega) with ⟨i, hi, e⟩ | h'
            · exact ⟨_, Or.inr (Or.inl ⟨i, e, hi, rfl⟩)⟩
            · exact ⟨-9, Or.inr (Or.inr ⟨Int32.not_lt.mp hb0, h'.resolve_left hb0, rfl⟩)⟩
        obtain ⟨r, hr⟩ := ex
        refine nc_SIM_ob wf r (fun mi h hl => ?_) (fun mi h => ?_)
        · obtain ⟨m1, e1, cx, -, F1⟩ := C_recall (C_v h) hl ws
          obtain ⟨m2, e2, s2, F2⟩ := C_soon cx ws (s_w0_ok ws) ht
          have c2 : nc_CX A.1 pl ps (s_lw A.1) (-9) (s_w0 A.1) X m2 := nc_CX_fr w5 cx (fun a k h => F2 a k (by omega))
          obtain ⟨m3, e3, k1, k2, F3⟩ := C_trace c2 ws (s_w0_ok ws) ht s2 c
          refine ⟨m3, ?_, fun a k ha => by rw [F3 a k (by omega), F2 a k (by omega), F1 a k (by omega)]⟩
          show f_X7_over mi X _ b = _
          unfold f_X7_over
          rw [C_isT ((C_th h).trans w6) w7 ht, if_neg (by decide), if_pos hb, e1]
          simp only [nc_some_bind]
          rw [e2]
          simp only [nc_some_bind]
          rw [if_neg hsn, e3]
          simp only [nc_some_bind]
          have k1' : m3 (X + 55) 4 = nI N := k1
          rcases hr with ⟨rfl, rfl⟩ | ⟨i, rfl, hi, rfl⟩ | ⟨q1, q2, rfl⟩
          · rw [if_neg (by decide), k1']
          · unfold f_X2_carrierAt
            rw [if_pos (nI_pos' (by omega)), if_neg (nI_pos (by omega)), k1', if_neg (nI_ge hi (by omega))]
            have e9 : nI N - 1 - nI i = nI (N - 1 - i) := nc_back ⟨N, by omega⟩ ⟨i, by omega⟩ hi
            rw [e9, nc_at_nI (by omega) (by omega), k2 (N - 1 - i) (by show N - 1 - i < N; omega)]
            rfl
          · unfold f_X2_carrierAt
            rw [if_pos q1, if_neg (Int32.not_lt.mpr q1), k1', if_pos q2]
            rfl
        · obtain ⟨m1, e1, mx, -, F1⟩ := M_ways h ws
          obtain ⟨m2, -, e2, s2, F2⟩ := M_soon (al := -9) mx ws (s_w0_ok ws) w8 ht
          have c2 : nc_MY A.1 pl ps (s_w0 A.1) M m2 := nc_MY_fr w5 mx (fun a k h => F2 a k (by omega))
          obtain ⟨m3, e3, k2, F3⟩ := M_over c2 ws (s_w0_ok ws) ht s2 c
          refine ⟨m3, ?_, fun a k ha => by rw [F3 a k (by omega), F2 a k (by omega), F1 a k (by omega)]⟩
          have e3' : f_X8_findOver m2 M (nI t) = some (m3, nI N) := e3
          show f_X8_over mi M _ b = _
          unfold f_X8_over
          rw [M_isT ((M_th h).trans w6) w7 ht, e1]
          simp only [nc_some_bind]
          rw [if_neg (by decide), if_pos hb, nc_MY_lw mx, e2]
          simp only [nc_some_bind]
          rw [if_neg hsn, e3']
          simp only [nc_some_bind]
          rcases hr with ⟨rfl, rfl⟩ | ⟨i, rfl, hi, rfl⟩ | ⟨q1, q2, rfl⟩
          · rw [if_pos rfl]
          · have e9 : nI N - 1 - nI i = nI (N - 1 - i) := nc_back ⟨N, by omega⟩ ⟨i, by omega⟩ hi
            rw [if_neg (fun z => nI_pos (show i < 2 ^ 31 by omega) (by rw [z]; decide)), if_neg (nI_ge hi (by omega)), e9, nc_at_nI (by omega) (by omega), k2 (N - 1 - i) (by show N - 1 - i < N; omega)]
          · rw [if_neg (fun z => absurd (z ▸ q1) (by decide)), if_pos q2]
      · have hsn : s_soon A.1 pl ps (s_lw A.1) t (-9) (s_w0 A.1) = -9 := by
          unfold s_soon
          rw [if_neg c]
        refine nc_SIM_ob wf (-9) (fun mi h hl => ?_) (fun mi h => ?_)
        · obtain ⟨m1, e1, cx, -, F1⟩ := C_recall (C_v h) hl ws
          obtain ⟨m2, e2, -, F2⟩ := C_soon cx ws (s_w0_ok ws) ht
          refine ⟨m2, ?_, fun a k ha => by rw [F2 a k (by omega), F1 a k (by omega)]⟩
          show f_X7_over mi X _ b = _
          unfold f_X7_over
          rw [C_isT ((C_th h).trans w6) w7 ht, if_neg (by decide), if_pos hb, e1]
          simp only [nc_some_bind]
          rw [e2]
          simp only [nc_some_bind]
          rw [if_pos hsn]
        · obtain ⟨m1, e1, mx, -, F1⟩ := M_ways h ws
          obtain ⟨m2, -, e2, -, F2⟩ := M_soon (al := -9) mx ws (s_w0_ok ws) w8 ht
          refine ⟨m2, ?_, fun a k ha => by rw [F2 a k (by omega), F1 a k (by omega)]⟩
          show f_X8_over mi M _ b = _
          unfold f_X8_over
          rw [M_isT ((M_th h).trans w6) w7 ht, e1]
          simp only [nc_some_bind]
          rw [if_neg (by decide), if_pos hb, nc_MY_lw mx, e2]
          simp only [nc_some_bind]
          rw [if_pos hsn]
    · refine nc_SIM_ref wf 4 (by omega) (fun mi h hl => ?_) (fun mi h => ?_)
      · show f_X7_over mi X _ b = _
        unfold f_X7_over
        rw [C_isT ((C_th h).trans w6) w7 ht, if_neg (by decide), if_neg hb]
        rfl
      · show f_X8_over mi M _ b = _
        unfold f_X8_over
        rw [M_isT ((M_th h).trans w6) w7 ht]
        simp only [nc_some_bind]
        rw [if_neg (by decide), if_neg hb]
        rfl
end OVER
