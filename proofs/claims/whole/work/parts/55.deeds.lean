-- taking, laying, handing, tarrying, giving, and what is counted
theorem nc_ok_0 {N : Nat} (h : 0 < N) : nc_ok 0 N := ⟨0, h, rfl⟩
section DEEDS
variable {n : Nat} {A : nc_A} {LS : nc_Mem → Prop} {X M : Nat}
theorem sim_pt {g1 g2 : nc_Mem → Int32 → Int32 → Option (nc_Mem × Int32)} (wf : nc_WF n A) (a b : Int32)
    (h1 : ∀ mi ps, mi (X + 1) 5 = nI ps → ps ≤ 6 → (a < 0 ∨ nI ps ≤ a) → g1 mi a b = Option.bind (f_X7_refuse mi X (-(nI 1))) (fun q => some (q.1, q.2)))
    (h2 : ∀ mi ps, mi M 7 = nI ps → ps ≤ 6 → (a < 0 ∨ nI ps ≤ a) → g2 mi a b = Option.bind (f_X8_refuse mi M (-(nI 1))) (fun q => some (q.1, q.2)))
    (h3 : ∀ mi ps p th, mi (X + 1) 5 = nI ps → ps ≤ 6 → p < ps → a = nI p → mi (X + 1) 6 = nI th → th ≤ 6 → (b < 0 ∨ nI th ≤ b) → g1 mi a b = Option.bind (f_X7_refuse mi X (-(nI 1))) (fun q => some (q.1, q.2)))
    (h4 : ∀ mi ps p th, mi M 7 = nI ps → ps ≤ 6 → p < ps → a = nI p → mi M 9 = nI th → th ≤ 6 → (b < 0 ∨ nI th ≤ b) → g2 mi a b = Option.bind (f_X8_refuse mi M (-(nI 1))) (fun q => some (q.1, q.2)))
    (h5 : ∀ pl ps th p t, s_wf A.1 n pl ps th → p < ps → t < th → a = nI p → b = nI t → nc_SIM n A LS X M (fun mi => g1 mi a b) (fun mi => g2 mi a b)) : nc_SIM n A LS X M (fun mi => g1 mi a b) (fun mi => g2 mi a b) := by
  obtain ⟨⟨pl, ps, th, ws⟩, wl, wr⟩ := id wf
  obtain ⟨w1, w2, w3, w4, w5, w6, w7, w8, w9⟩ := id ws
  rcases nc_among a (n := ps) (by omega) with ⟨p, hp, ea⟩ | ha
  · rcases nc_among b (n := th) (by omega) with ⟨t, ht, eb⟩ | hb
    · exact h5 pl ps th p t ws hp ht ea eb
    · exact nc_SIM_ref wf 1 (by omega) (fun mi h hl => h3 mi ps p th ((C_ps h).trans w4) w5 hp ea ((C_th h).trans w6) w7 hb) (fun mi h => h4 mi ps p th ((M_ps h).trans w4) w5 hp ea ((M_th h).trans w6) w7 hb)
  · exact nc_SIM_ref wf 1 (by omega) (fun mi h hl => h1 mi ps ((C_ps h).trans w4) w5 ha) (fun mi h => h2 mi ps ((M_ps h).trans w4) w5 ha)
theorem sim_take (wf : nc_WF n A) (hn : n ≤ 1000) (a b : Int32) : nc_SIM n A LS X M (fun mi => f_X7_take mi X a b) (fun mi => f_X8_take mi M a b) := by
  refine sim_pt (g1 := fun mi a b => f_X7_take mi X a b) (g2 := fun mi a b => f_X8_take mi M a b) wf a b (fun mi ps e hs ha => ?_) (fun mi ps e hs ha => ?_) (fun mi ps p th e hs hp ea e' ht hb => ?_) (fun mi ps p th e hs hp ea e' ht hb => ?_) (fun pl ps th p t ws hp ht ea eb => ?_)
  · show f_X7_take mi X a b = _
    unfold f_X7_take
    simp only [nc_let_eq]
    rw [C_isPn e ha, if_pos rfl]
    rfl
  · show f_X8_take mi M a b = _
    unfold f_X8_take
    rw [M_isPn e hs ha]
    rfl
  · show f_X7_take mi X a b = _
    subst ea
    unfold f_X7_take
    simp only [nc_let_eq]
    rw [C_isP e hs hp, if_neg (by decide), C_isTn e' hb, if_pos rfl]
    rfl
  · show f_X8_take mi M a b = _
    subst ea
    unfold f_X8_take
    rw [M_isP e hs hp, M_isTn e' ht hb]
    rfl
  · subst ea eb
    obtain ⟨w1, w2, w3, w4, w5, w6, w7, w8, w9, w10, w11⟩ := id ws
    have k1 := (w10 p hp).2.2.2.2.2.2
    have k2 := (w11 t ht).2.2.2.2.2.2.2.2.1
    have kc := nc_ok_max k1 k2
    generalize ec : (if s_P A.1 p 6 < s_T A.1 t 8 then s_T A.1 t 8 else s_P A.1 p 6) = clk at kc
    have gC : ∀ mi, aC mi X = A → f_X7_take mi X (nI p) (nI t) = if s_T A.1 t 7 = s_P A.1 p 5 ∧ s_may A.1 p t clk = 1 ∧ s_room A.1 p t th = 1 then some (nc_up (nc_up (nc_up mi (X + 1 + 5 + p) 6 clk) (X + 1 + 11 + t) 7 (10 + nI p)) (X + 1 + 11 + t) 8 0, clk) else Option.bind (f_X7_refuse mi X (-(nI 3))) (fun q => some (q.1, q.2)) := by
      intro mi h
      unfold f_X7_take f_X5_takeUp f_X5_load
      simp only [nc_let_eq]
      rw [C_isP ((C_ps h).trans w4) w5 hp, if_neg (by decide), C_isT ((C_th h).trans w6) w7 ht, if_neg (by decide)]
      simp only [nc_at_nI (show p < 6 by omega) (show 6 < 2 ^ 31 by omega), nc_at_nI (show t < 6 by omega) (show 6 < 2 ^ 31 by omega)]
      rw [C_rP h (by omega) (by omega), C_rT h (by omega) (by omega), C_rT h (by omega) (by omega), C_rP h (by omega) (by omega), ec, C_lets h ws hn hp ht kc (nc_bd_le hn), C_room h w6 w7 (by omega) (by omega)]
      simp only [nc_some_bind]
      by_cases q1 : s_T A.1 t 7 = s_P A.1 p 5
      · rcases s_may_01 A.1 p t clk with q2 | q2
        · simp [q1, q2]
          rfl
        · by_cases q3 : s_room A.1 p t th = 0
          · simp [q1, q2, q3]
            rfl
          · have q3' : s_room A.1 p t th = 1 := by
              unfold s_room at q3 ⊢
              split at q3
              · exact absurd rfl q3
              · rw [if_neg (by assumption)]
            simp [q1, q2, q3']
            rw [nc_up_na (by omega), nc_up_na (by omega), nc_up_same]
      · simp [q1]
        rfl
    have gM : ∀ mi, aM mi M = A → f_X8_take mi M (nI p) (nI t) = if s_T A.1 t 7 = s_P A.1 p 5 ∧ s_may A.1 p t clk = 1 ∧ s_room A.1 p t th = 1 then some (nc_up (nc_up (nc_up mi (M + 12 + 1 + p) 6 clk) (M + 19 + 1 + t) 7 (10 + nI p)) (M + 19 + 1 + t) 8 0, clk) else Option.bind (f_X8_refuse mi M (-(nI 3))) (fun q => some (q.1, q.2)) := by
      intro mi h
      unfold f_X8_take
      simp only [nc_let_eq]
      rw [M_isP ((M_ps h).trans w4) w5 hp, M_isT ((M_th h).trans w6) w7 ht]
      simp only [nc_some_bind]
      rw [if_neg (by decide), if_neg (by decide)]
      simp only [nc_at_nI (show p < 6 by omega) (show 6 < 2 ^ 31 by omega), nc_at_nI (show t < 6 by omega) (show 6 < 2 ^ 31 by omega), nc_later]
      rw [M_rP h (by omega) (by omega), M_rT h (by omega) (by omega), M_rT h (by omega) (by omega), M_rP h (by omega) (by omega), ec, M_may h ws hp ht, M_room h w6 w7 (by omega) (by omega)]
      simp only [nc_some_bind]
      by_cases q1 : s_T A.1 t 7 = s_P A.1 p 5
      · rcases s_may_01 A.1 p t clk with q2 | q2
        · simp [q1, q2]
          rfl
        · by_cases q3 : s_room A.1 p t th = 0
          · simp [q1, q2, q3]
            rfl
          · have q3' : s_room A.1 p t th = 1 := by
              unfold s_room at q3 ⊢
              split at q3
              · exact absurd rfl q3
              · rw [if_neg (by assumption)]
            simp [q1, q2, q3']
      · simp [q1]
        rfl
    by_cases q : s_T A.1 t 7 = s_P A.1 p 5 ∧ s_may A.1 p t clk = 1 ∧ s_room A.1 p t th = 1
    · refine ⟨clk, (s_setT (s_setT (s_setP A.1 p 6 clk) t 7 (10 + nI p)) t 8 0, A.2), ⟨⟨pl, ps, th, ?_⟩, wf.2⟩, fun mi h hl => ⟨_, (gC mi h).trans (if_pos q), ?_, ?_⟩, fun mi h => ⟨_, (gM mi h).trans (if_pos q), ?_, ?_⟩, rfl⟩
      · have w' : s_wf (s_setP A.1 p 6 clk) (n + 1) pl ps th := s_wf_P ws (Nat.le_succ n) (Or.inr ⟨rfl, nc_ok_mono kc (by unfold nc_bd; omega)⟩)
        exact s_wf_78 w' (Or.inr ⟨⟨p, hp, nI_add 10 p⟩, rfl⟩) (nc_ok_0 (by unfold nc_bd; omega))
      · rw [aC_uT (by omega) (by omega), aC_uT (by omega) (by omega), aC_uP (by omega) (by omega), h]
      · exact nc_frC_u (nc_frC_u (nc_frC_u nc_frC_r (by omega)) (by omega)) (by omega)
      · rw [aM_uT (by omega) (by omega), aM_uT (by omega) (by omega), aM_uP (by omega) (by omega), h]
      · exact nc_frM_u (nc_frM_u (nc_frM_u nc_frM_r (by omega)) (by omega)) (by omega)
    · exact nc_SIM_ref wf 3 (by omega) (fun mi h hl => (gC mi h).trans (if_neg q)) (fun mi h => (gM mi h).trans (if_neg q))
end DEEDS
