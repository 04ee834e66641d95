theorem s_room_01 (S : nc_S) (p t th : Nat) : s_room S p t th = 0 ∨ s_room S p t th = 1 := by
  unfold s_room
  split
  · exact Or.inl rfl
  · exact Or.inr rfl
section DEEDS2
variable {n : Nat} {A : nc_A} {LS : nc_Mem → Prop} {X M : Nat}
theorem sim_lay (wf : nc_WF n A) (a b : Int32) : nc_SIM n A LS X M (fun mi => f_X7_lay mi X a b) (fun mi => f_X8_lay mi M a b) := by
  refine sim_pt (g1 := fun mi a b => f_X7_lay mi X a b) (g2 := fun mi a b => f_X8_lay mi M a b) wf a b (fun mi ps e hs ha => ?_) (fun mi ps e hs ha => ?_) (fun mi ps p th e hs hp ea e' ht hb => ?_) (fun mi ps p th e hs hp ea e' ht hb => ?_) (fun pl ps th p t ws hp ht ea eb => ?_)
  · show f_X7_lay mi X a b = _
    unfold f_X7_lay
    simp only [nc_let_eq]
    rw [C_isPn e ha, if_pos rfl]
    rfl
  · show f_X8_lay mi M a b = _
    unfold f_X8_lay
    rw [M_isPn e hs ha]
    rfl
  · show f_X7_lay mi X a b = _
    subst ea
    unfold f_X7_lay
    simp only [nc_let_eq]
    rw [C_isP e hs hp, if_neg (by decide), C_isTn e' hb, if_pos rfl]
    rfl
  · show f_X8_lay mi M a b = _
    subst ea
    unfold f_X8_lay
    rw [M_isP e hs hp, M_isTn e' ht hb]
    rfl
  · subst ea eb
    obtain ⟨w1, w2, w3, w4, w5, w6, w7, w8, w9, w10, w11⟩ := id ws
    have gC : ∀ mi, aC mi X = A → f_X7_lay mi X (nI p) (nI t) = if s_T A.1 t 7 = 10 + nI p then some (nc_up (nc_up mi (X + 1 + 11 + t) 7 (s_P A.1 p 5)) (X + 1 + 11 + t) 8 (s_P A.1 p 6), s_P A.1 p 6) else Option.bind (f_X7_refuse mi X (-(nI 3))) (fun q => some (q.1, q.2)) := by
      intro mi h
      unfold f_X7_lay f_X5_layDown
      simp only [nc_let_eq]
      rw [C_isP ((C_ps h).trans w4) w5 hp, if_neg (by decide), C_isT ((C_th h).trans w6) w7 ht, if_neg (by decide)]
      simp only [nc_at_nI (show p < 6 by omega) (show 6 < 2 ^ 31 by omega), nc_at_nI (show t < 6 by omega) (show 6 < 2 ^ 31 by omega)]
      rw [C_rT h (by omega) (by omega), C_rP h (by omega) (by omega), nc_up_na (by omega), C_rP h (by omega) (by omega)]
      by_cases q1 : s_T A.1 t 7 = 10 + nI p
      · rw [if_pos q1, if_pos q1]
        simp only [nc_some_bind]
        rw [if_neg (by decide), nc_up_na (by omega), nc_up_na (by omega), C_rP h (by omega) (by omega)]
      · rw [if_neg q1, if_neg q1]
        rfl
    have gM : ∀ mi, aM mi M = A → f_X8_lay mi M (nI p) (nI t) = if s_T A.1 t 7 = 10 + nI p then some (nc_up (nc_up mi (M + 19 + 1 + t) 7 (s_P A.1 p 5)) (M + 19 + 1 + t) 8 (s_P A.1 p 6), s_P A.1 p 6) else Option.bind (f_X8_refuse mi M (-(nI 3))) (fun q => some (q.1, q.2)) := by
      intro mi h
      unfold f_X8_lay
      simp only [nc_let_eq]
      rw [M_isP ((M_ps h).trans w4) w5 hp, M_isT ((M_th h).trans w6) w7 ht]
      simp only [nc_some_bind]
      rw [if_neg (by decide), if_neg (by decide)]
      simp only [nc_at_nI (show p < 6 by omega) (show 6 < 2 ^ 31 by omega), nc_at_nI (show t < 6 by omega) (show 6 < 2 ^ 31 by omega)]
      rw [M_rT h (by omega) (by omega), M_rP h (by omega) (by omega), nc_up_na (a' := M + 12 + 1 + p) (by omega), M_rP h (by omega) (by omega), nc_up_na (a' := M + 12 + 1 + p) (by omega), nc_up_na (a' := M + 12 + 1 + p) (by omega), M_rP h (by omega) (by omega)]
      rfl
    by_cases q : s_T A.1 t 7 = 10 + nI p
    · refine ⟨s_P A.1 p 6, (s_setT (s_setT A.1 t 7 (s_P A.1 p 5)) t 8 (s_P A.1 p 6), A.2), ⟨⟨pl, ps, th, ?_⟩, wf.2⟩, fun mi h hl => ⟨_, (gC mi h).trans (if_pos q), ?_, ?_⟩, fun mi h => ⟨_, (gM mi h).trans (if_pos q), ?_, ?_⟩, rfl⟩
      · exact s_wf_mono (s_wf_78 ws (Or.inl (w10 p hp).2.2.2.2.2.1) (w10 p hp).2.2.2.2.2.2) (Nat.le_succ n)
      · rw [aC_uT (by omega) (by omega), aC_uT (by omega) (by omega), h]
      · exact nc_frC_u (nc_frC_u nc_frC_r (by omega)) (by omega)
      · rw [aM_uT (by omega) (by omega), aM_uT (by omega) (by omega), h]
      · exact nc_frM_u (nc_frM_u nc_frM_r (by omega)) (by omega)
    · exact nc_SIM_ref wf 3 (by omega) (fun mi h hl => (gC mi h).trans (if_neg q)) (fun mi h => (gM mi h).trans (if_neg q))
theorem sim_give (wf : nc_WF n A) (a b : Int32) : nc_SIM n A LS X M (fun mi => f_X7_give mi X a b) (fun mi => f_X8_give mi M a b) := by
  refine sim_pt (g1 := fun mi a b => f_X7_give mi X a b) (g2 := fun mi a b => f_X8_give mi M a b) wf a b (fun mi ps e hs ha => ?_) (fun mi ps e hs ha => ?_) (fun mi ps p th e hs hp ea e' ht hb => ?_) (fun mi ps p th e hs hp ea e' ht hb => ?_) (fun pl ps th p t ws hp ht ea eb => ?_)
  · show f_X7_give mi X a b = _
    unfold f_X7_give
    simp only [nc_let_eq]
    rw [C_isPn e ha, if_pos rfl]
    rfl
  · show f_X8_give mi M a b = _
    unfold f_X8_give
    rw [M_isPn e hs ha]
    rfl
  · show f_X7_give mi X a b = _
    subst ea
    unfold f_X7_give
    simp only [nc_let_eq]
    rw [C_isP e hs hp, if_neg (by decide), C_isTn e' hb, if_pos rfl]
    rfl
  · show f_X8_give mi M a b = _
    subst ea
    unfold f_X8_give
    rw [M_isP e hs hp, M_isTn e' ht hb]
    rfl
  · subst ea eb
    obtain ⟨w1, w2, w3, w4, w5, w6, w7, w8, w9, w10, w11⟩ := id ws
    have gC : ∀ mi, aC mi X = A → f_X7_give mi X (nI p) (nI t) = if s_T A.1 t 0 = nI p ∨ s_T A.1 t 1 = nI p then some (nc_up mi (X + 1 + 11 + t) 9 (s_P A.1 p 6), s_P A.1 p 6) else Option.bind (f_X7_refuse mi X (-(nI 3))) (fun q => some (q.1, q.2)) := by
      intro mi h
      unfold f_X7_give f_X4_isOf
      simp only [nc_let_eq]
      rw [C_isP ((C_ps h).trans w4) w5 hp, if_neg (by decide), C_isT ((C_th h).trans w6) w7 ht, if_neg (by decide)]
      simp only [nc_at_nI (show p < 6 by omega) (show 6 < 2 ^ 31 by omega), nc_at_nI (show t < 6 by omega) (show 6 < 2 ^ 31 by omega)]
      rw [C_rT h (by omega) (by omega), C_rT h (by omega) (by omega), C_rP h (by omega) (by omega), nc_up_na (by omega), C_rP h (by omega) (by omega)]
      by_cases q1 : nI p = s_T A.1 t 0
      · rw [if_pos q1, if_neg (by decide), if_pos (Or.inl q1.symm)]
      · rw [if_neg q1]
        by_cases q2 : nI p = s_T A.1 t 1
        · rw [if_pos q2, if_neg (by decide), if_pos (Or.inr q2.symm)]
        · rw [if_neg q2, if_pos rfl, if_neg (fun z => z.elim (fun z => q1 z.symm) (fun z => q2 z.symm))]
          rfl
    have gM : ∀ mi, aM mi M = A → f_X8_give mi M (nI p) (nI t) = if s_T A.1 t 0 = nI p ∨ s_T A.1 t 1 = nI p then some (nc_up mi (M + 19 + 1 + t) 9 (s_P A.1 p 6), s_P A.1 p 6) else Option.bind (f_X8_refuse mi M (-(nI 3))) (fun q => some (q.1, q.2)) := by
      intro mi h
      unfold f_X8_give
      simp only [nc_let_eq]
      rw [M_isP ((M_ps h).trans w4) w5 hp, M_isT ((M_th h).trans w6) w7 ht, M_isOwner (M_v h) (by omega)]
      simp only [nc_some_bind]
      rw [if_neg (by decide), if_neg (by decide)]
      simp only [nc_at_nI (show p < 6 by omega) (show 6 < 2 ^ 31 by omega), nc_at_nI (show t < 6 by omega) (show 6 < 2 ^ 31 by omega)]
      rw [M_rP h (by omega) (by omega), nc_up_na (a' := M + 12 + 1 + p) (by omega), M_rP h (by omega) (by omega)]
      by_cases q : s_T A.1 t 0 = nI p ∨ s_T A.1 t 1 = nI p
      · rw [if_pos q, if_pos q, if_neg (by decide)]
      · rw [if_neg q, if_neg q]
        rfl
    by_cases q : s_T A.1 t 0 = nI p ∨ s_T A.1 t 1 = nI p
    · refine ⟨s_P A.1 p 6, (s_setT A.1 t 9 (s_P A.1 p 6), A.2), ⟨⟨pl, ps, th, ?_⟩, wf.2⟩, fun mi h hl => ⟨_, (gC mi h).trans (if_pos q), ?_, ?_⟩, fun mi h => ⟨_, (gM mi h).trans (if_pos q), ?_, ?_⟩, rfl⟩
      · exact s_wf_mono (s_wf_9 ws (w10 p hp).2.2.2.2.2.2) (Nat.le_succ n)
      · rw [aC_uT (by omega) (by omega), h]
      · exact nc_frC_u nc_frC_r (by omega)
      · rw [aM_uT (by omega) (by omega), h]
      · exact nc_frM_u nc_frM_r (by omega)
    · exact nc_SIM_ref wf 3 (by omega) (fun mi h hl => (gC mi h).trans (if_neg q)) (fun mi h => (gM mi h).trans (if_neg q))
theorem sim_tarry (wf : nc_WF n A) (hn : n ≤ 1000) (a b : Int32) : nc_SIM n A LS X M (fun mi => f_X7_tarry mi X a b) (fun mi => f_X8_tarry mi M a b) := by
  obtain ⟨⟨pl, ps, th, ws⟩, wl, wr⟩ := id wf
  obtain ⟨w1, w2, w3, w4, w5, w6, w7, w8, w9, w10, w11⟩ := id ws
  rcases nc_among a (n := ps) (by omega) with ⟨p, hp, rfl⟩ | ha
  · by_cases h0 : 1 ≤ b
    · by_cases h1 : b ≤ 600
      · have hb : ¬ b < 0 := fun z => absurd (Int32.lt_of_le_of_lt h0 z) (by decide)
        obtain ⟨k, hk, rfl⟩ := nI_of2 (n := 600) (by decide) hb h1
        obtain ⟨c, hc, ec⟩ := (w10 p hp).2.2.2.2.2.2
        refine ⟨nI (c + k), (s_setP A.1 p 6 (nI (c + k)), A.2), ⟨⟨pl, ps, th, s_wf_P ws (Nat.le_succ n) (Or.inr ⟨rfl, c + k, by unfold nc_bd at *; omega, rfl⟩)⟩, wf.2⟩, fun mi h hl => ⟨nc_up mi (X + 1 + 5 + p) 6 (nI (c + k)), ?_, ?_, ?_⟩, fun mi h => ⟨nc_up mi (M + 12 + 1 + p) 6 (nI (c + k)), ?_, ?_, ?_⟩, rfl⟩
        · show f_X7_tarry mi X _ _ = _
          unfold f_X7_tarry
          simp only [nc_let_eq]
          rw [C_isP ((C_ps h).trans w4) w5 hp, if_neg (by decide), if_pos h0, if_pos h1, nc_at_nI (by omega) (by omega), C_rP h (by omega) (by omega), ec, nI_add, nc_up_same]
        · rw [aC_uP (by omega) (by omega), h]
        · exact nc_frC_u nc_frC_r (by omega)
        · show f_X8_tarry mi M _ _ = _
          unfold f_X8_tarry
          simp only [nc_let_eq]
          rw [M_isP ((M_ps h).trans w4) w5 hp]
          simp only [nc_some_bind]
          rw [if_neg (by decide), if_pos h0, if_pos h1, nc_at_nI (by omega) (by omega), M_rP h (by omega) (by omega), ec, nI_add, nc_up_same]
        · rw [aM_uP (by omega) (by omega), h]
        · exact nc_frM_u nc_frM_r (by omega)
      · refine nc_SIM_ref wf 6 (by omega) (fun mi h hl => ?_) (fun mi h => ?_)
        · show f_X7_tarry mi X _ _ = _
          unfold f_X7_tarry
          rw [C_isP ((C_ps h).trans w4) w5 hp, if_neg (by decide), if_pos h0, if_neg h1]
          rfl
        · show f_X8_tarry mi M _ _ = _
          unfold f_X8_tarry
          rw [M_isP ((M_ps h).trans w4) w5 hp]
          simp only [nc_some_bind]
          rw [if_neg (by decide), if_pos h0, if_neg h1]
          rfl
    · refine nc_SIM_ref wf 4 (by omega) (fun mi h hl => ?_) (fun mi h => ?_)
      · show f_X7_tarry mi X _ _ = _
        unfold f_X7_tarry
        rw [C_isP ((C_ps h).trans w4) w5 hp, if_neg (by decide), if_neg h0]
        rfl
      · show f_X8_tarry mi M _ _ = _
        unfold f_X8_tarry
        rw [M_isP ((M_ps h).trans w4) w5 hp]
        simp only [nc_some_bind]
        rw [if_neg (by decide), if_neg h0]
        rfl
  · refine nc_SIM_ref wf 1 (by omega) (fun mi h hl => ?_) (fun mi h => ?_)
    · show f_X7_tarry mi X a b = _
      unfold f_X7_tarry
      rw [C_isPn ((C_ps h).trans w4) ha, if_pos rfl]
      rfl
    · show f_X8_tarry mi M a b = _
      unfold f_X8_tarry
      rw [M_isPn ((M_ps h).trans w4) w5 ha]
      rfl
theorem sim_hand (wf : nc_WF n A) (hn : n ≤ 1000) (a b c : Int32) : nc_SIM n A LS X M (fun mi => f_X7_hand mi X a b c) (fun mi => f_X8_hand mi M a b c) := by
  obtain ⟨⟨pl, ps, th, ws⟩, wl, wr⟩ := id wf
  obtain ⟨w1, w2, w3, w4, w5, w6, w7, w8, w9, w10, w11⟩ := id ws
  rcases nc_among a (n := ps) (by omega) with ⟨p, hp, rfl⟩ | ha
  · rcases nc_among b (n := ps) (by omega) with ⟨q, hq, rfl⟩ | hb
    · by_cases hpq : p = q
      · refine nc_SIM_ref wf 1 (by omega) (fun mi h hl => ?_) (fun mi h => ?_)
        · show f_X7_hand mi X _ _ c = _
          unfold f_X7_hand
          simp only [nc_let_eq]
          rw [C_isP ((C_ps h).trans w4) w5 hp, if_neg (by decide), C_isP ((C_ps h).trans w4) w5 hq, if_neg (by decide), if_pos (congrArg nI hpq)]
          rfl
        · show f_X8_hand mi M _ _ c = _
          unfold f_X8_hand
          rw [M_isP ((M_ps h).trans w4) w5 hp, M_isP ((M_ps h).trans w4) w5 hq]
          simp only [nc_some_bind, nc_let_eq]
          rw [if_neg (by decide), if_neg (by decide), if_pos (congrArg nI hpq)]
          rfl
      · have hpq' : ¬ nI p = nI q := fun z => hpq ((nI_eq (by omega) (by omega)).mp z)
        rcases nc_among c (n := th) (by omega) with ⟨t, ht, rfl⟩ | hc
        · have k1 := (w10 p hp).2.2.2.2.2.2
          have k2 := (w10 q hq).2.2.2.2.2.2
          have kc := nc_ok_max k1 k2
          generalize ec : (if s_P A.1 p 6 < s_P A.1 q 6 then s_P A.1 q 6 else s_P A.1 p 6) = clk at kc
          have gC : ∀ mi, aC mi X = A → f_X7_hand mi X (nI p) (nI q) (nI t) = if s_T A.1 t 7 = 10 + nI p ∧ s_P A.1 p 5 = s_P A.1 q 5 ∧ s_may A.1 q t clk = 1 ∧ s_room A.1 q t th = 1 then some (nc_up (nc_up (nc_up (nc_up mi (X + 1 + 5 + p) 6 clk) (X + 1 + 5 + q) 6 clk) (X + 1 + 11 + t) 7 (10 + nI q)) (X + 1 + 11 + t) 8 0, clk) else Option.bind (f_X7_refuse mi X (-(nI 3))) (fun q => some (q.1, q.2)) := by
            intro mi h
            unfold f_X7_hand f_X5_handOver f_X5_load
            simp only [nc_let_eq]
            rw [C_isP ((C_ps h).trans w4) w5 hp, if_neg (by decide), C_isP ((C_ps h).trans w4) w5 hq, if_neg (by decide), if_neg hpq', C_isT ((C_th h).trans w6) w7 ht, if_neg (by decide)]
            simp only [nc_at_nI (show p < 6 by omega) (show 6 < 2 ^ 31 by omega), nc_at_nI (show q < 6 by omega) (show 6 < 2 ^ 31 by omega), nc_at_nI (show t < 6 by omega) (show 6 < 2 ^ 31 by omega)]
            rw [C_rP h (show p < 6 by omega) (show 6 < 7 by omega), C_rP h (show q < 6 by omega) (show 6 < 7 by omega), C_rT h (show t < 6 by omega) (show 7 < 10 by omega), C_rP h (show p < 6 by omega) (show 5 < 7 by omega), C_rP h (show q < 6 by omega) (show 5 < 7 by omega), ec, C_lets h ws hn hq ht kc (nc_bd_le hn), C_room h w6 w7 (by omega) (by omega)]
            simp only [nc_some_bind]
            by_cases q0 : s_T A.1 t 7 = 10 + nI p
            · by_cases q1 : s_P A.1 p 5 = s_P A.1 q 5
              · rcases s_may_01 A.1 q t clk with q2 | q2
                · simp [q0, q1, q2]
                  rfl
                · rcases s_room_01 A.1 q t th with q3 | q3
                  · simp [q0, q1, q2, q3]
                    rfl
                  · simp [q0, q1, q2, q3]
                    rw [nc_up_na (by omega), nc_up_na (by omega), nc_up_na (by omega), nc_up_same]
              · simp [q0, q1]
                rfl
            · simp [q0]
              rfl
          have gM : ∀ mi, aM mi M = A → f_X8_hand mi M (nI p) (nI q) (nI t) = if s_T A.1 t 7 = 10 + nI p ∧ s_P A.1 p 5 = s_P A.1 q 5 ∧ s_may A.1 q t clk = 1 ∧ s_room A.1 q t th = 1 then some (nc_up (nc_up (nc_up mi (M + 12 + 1 + p) 6 clk) (M + 12 + 1 + q) 6 clk) (M + 19 + 1 + t) 7 (10 + nI q), clk) else Option.bind (f_X8_refuse mi M (-(nI 3))) (fun q => some (q.1, q.2)) := by
            intro mi h
            unfold f_X8_hand
            simp only [nc_let_eq]
            rw [M_isP ((M_ps h).trans w4) w5 hp, M_isP ((M_ps h).trans w4) w5 hq, M_isT ((M_th h).trans w6) w7 ht]
            simp only [nc_some_bind]
            rw [if_neg (by decide), if_neg (by decide), if_neg hpq', if_neg (by decide)]
            simp only [nc_at_nI (show p < 6 by omega) (show 6 < 2 ^ 31 by omega), nc_at_nI (show q < 6 by omega) (show 6 < 2 ^ 31 by omega), nc_at_nI (show t < 6 by omega) (show 6 < 2 ^ 31 by omega), nc_later]
            rw [M_rP h (show p < 6 by omega) (show 6 < 7 by omega), M_rP h (show q < 6 by omega) (show 6 < 7 by omega), M_rT h (show t < 6 by omega) (show 7 < 10 by omega), M_rP h (show p < 6 by omega) (show 5 < 7 by omega), M_rP h (show q < 6 by omega) (show 5 < 7 by omega), ec, M_may h ws hq ht, M_room h w6 w7 (by omega) (by omega)]
            simp only [nc_some_bind]
            by_cases q0 : s_T A.1 t 7 = 10 + nI p
            · by_cases q1 : s_P A.1 p 5 = s_P A.1 q 5
              · rcases s_may_01 A.1 q t clk with q2 | q2
                · simp [q0, q1, q2]
                  rfl
                · rcases s_room_01 A.1 q t th with q3 | q3
                  · simp [q0, q1, q2, q3]
                    rfl
                  · simp [q0, q1, q2, q3]
              · simp [q0, q1]
                rfl
            · simp [q0]
              rfl
          by_cases qq : s_T A.1 t 7 = 10 + nI p ∧ s_P A.1 p 5 = s_P A.1 q 5 ∧ s_may A.1 q t clk = 1 ∧ s_room A.1 q t th = 1
          · have e0 : s_T A.1 t 8 = 0 := by
              rcases (w11 t ht).2.2.2.2.2.2.2.1 with ⟨d, hd, e⟩ | ⟨-, e⟩
              · rw [qq.1, show (10 : Int32) + nI p = nI (10 + p) from nI_add 10 p, nI_eq (by omega) (by omega)] at e
                omega
              · exact e
            refine ⟨clk, (s_setT (s_setT (s_setP (s_setP A.1 p 6 clk) q 6 clk) t 7 (10 + nI q)) t 8 0, A.2), ⟨⟨pl, ps, th, ?_⟩, wf.2⟩, fun mi h hl => ⟨_, (gC mi h).trans (if_pos qq), ?_, ?_⟩, fun mi h => ⟨_, (gM mi h).trans (if_pos qq), ?_, ?_⟩, rfl⟩
            · have kc' : nc_ok clk (nc_bd (n + 1)) := nc_ok_mono kc (by unfold nc_bd; omega)
              have w' : s_wf (s_setP A.1 p 6 clk) (n + 1) pl ps th := s_wf_P ws (Nat.le_succ n) (Or.inr ⟨rfl, kc'⟩)
              have w'' : s_wf (s_setP (s_setP A.1 p 6 clk) q 6 clk) (n + 1) pl ps th := s_wf_P w' (Nat.le_refl _) (Or.inr ⟨rfl, kc'⟩)
              exact s_wf_78 w'' (Or.inr ⟨⟨q, hq, nI_add 10 q⟩, rfl⟩) (nc_ok_0 (by unfold nc_bd; omega))
            · rw [aC_uT (by omega) (by omega), aC_uT (by omega) (by omega), aC_uP (by omega) (by omega), aC_uP (by omega) (by omega), h]
            · exact nc_frC_u (nc_frC_u (nc_frC_u (nc_frC_u nc_frC_r (by omega)) (by omega)) (by omega)) (by omega)
            · rw [aM_uT (by omega) (by omega), aM_uP (by omega) (by omega), aM_uP (by omega) (by omega), h]
              refine congrArg (fun S : nc_S => (S, A.2)) ?_
              unfold s_setT
              simp only [Prod.mk.injEq, true_and]
              funext t' k'
              by_cases e : t' = t ∧ k' = 8
              · rw [if_pos e, if_neg (by omega)]
                rw [e.1, e.2]
                exact e0
              · rw [if_neg e]
            · exact nc_frM_u (nc_frM_u (nc_frM_u nc_frM_r (by omega)) (by omega)) (by omega)
          · exact nc_SIM_ref wf 3 (by omega) (fun mi h hl => (gC mi h).trans (if_neg qq)) (fun mi h => (gM mi h).trans (if_neg qq))
        · refine nc_SIM_ref wf 1 (by omega) (fun mi h hl => ?_) (fun mi h => ?_)
          · show f_X7_hand mi X _ _ c = _
            unfold f_X7_hand
            simp only [nc_let_eq]
            rw [C_isP ((C_ps h).trans w4) w5 hp, if_neg (by decide), C_isP ((C_ps h).trans w4) w5 hq, if_neg (by decide), if_neg hpq', C_isTn ((C_th h).trans w6) hc, if_pos rfl]
            rfl
          · show f_X8_hand mi M _ _ c = _
            unfold f_X8_hand
            rw [M_isP ((M_ps h).trans w4) w5 hp, M_isP ((M_ps h).trans w4) w5 hq, M_isTn ((M_th h).trans w6) w7 hc]
            simp only [nc_some_bind, nc_let_eq]
            rw [if_neg (by decide), if_neg (by decide), if_neg hpq', if_pos trivial]
            rfl
    · refine nc_SIM_ref wf 1 (by omega) (fun mi h hl => ?_) (fun mi h => ?_)
      · show f_X7_hand mi X _ b c = _
        unfold f_X7_hand
        simp only [nc_let_eq]
        rw [C_isP ((C_ps h).trans w4) w5 hp, if_neg (by decide), C_isPn ((C_ps h).trans w4) hb, if_pos rfl]
        rfl
      · show f_X8_hand mi M _ b c = _
        unfold f_X8_hand
        rw [M_isP ((M_ps h).trans w4) w5 hp, M_isPn ((M_ps h).trans w4) w5 hb]
        rfl
  · refine nc_SIM_ref wf 1 (by omega) (fun mi h hl => ?_) (fun mi h => ?_)
    · show f_X7_hand mi X a b c = _
      unfold f_X7_hand
      simp only [nc_let_eq]
      rw [C_isPn ((C_ps h).trans w4) ha, if_pos rfl]
      rfl
    · show f_X8_hand mi M a b c = _
      unfold f_X8_hand
      rw [M_isPn ((M_ps h).trans w4) w5 ha]
      rfl
def s_there (S : nc_S) (j : Nat) (x : Int32) : Int32 := if s_T S j 7 = s_T S j 3 then (if s_T S j 5 < s_T S j 8 then x else x + 1) else x
theorem sim_there (wf : nc_WF n A) : nc_SIM n A LS X M (fun mi => (f_X7_there mi X).map (fun r => (mi, r))) (fun mi => (f_X8_there mi M).map (fun r => (mi, r))) := by
  obtain ⟨⟨pl, ps, th, ws⟩, wl, wr⟩ := id wf
  obtain ⟨w1, w2, w3, w4, w5, w6, w7, w8, w9, w10, w11⟩ := id ws
  refine nc_SIM_id wf (nc_fo (s_there A.1) th 0 0) (fun mi h hl => ?_) (fun mi h => ?_)
  · have e : f_X7_there mi X = some (nc_fo (s_there A.1) th 0 0) := by
      unfold f_X7_there
      refine nc_for2 _ some th (fun rc x j hj => ?_) (fun rc x => ?_) (by omega)
      · unfold B_X7_there_4 s_there
        simp only [nc_let_eq]
        rw [C_th h, w6, if_neg (nI_ge hj (by omega)), nc_at_nI (by omega) (by omega), C_rT h (show j < 6 by omega) (show 7 < 10 by omega), C_rT h (show j < 6 by omega) (show 3 < 10 by omega), C_rT h (show j < 6 by omega) (show 5 < 10 by omega), C_rT h (show j < 6 by omega) (show 8 < 10 by omega), nI_1]
        split
        · split <;> rfl
        · rfl
      · unfold B_X7_there_4
        rw [C_th h, w6, if_pos (nI_le (Nat.le_refl _) (by omega))]
    rw [e]
    rfl
  · have e : f_X8_there mi M = some (nc_fo (s_there A.1) th 0 0) := by
      unfold f_X8_there
      refine nc_for2 _ some th (fun rc x j hj => ?_) (fun rc x => ?_) (by omega)
      · unfold B_X8_there_4 s_there
        simp only [nc_let_eq]
        rw [M_th h, w6, if_neg (nI_ge hj (by omega)), nc_at_nI (by omega) (by omega), M_rT h (show j < 6 by omega) (show 7 < 10 by omega), M_rT h (show j < 6 by omega) (show 3 < 10 by omega), M_rT h (show j < 6 by omega) (show 5 < 10 by omega), M_rT h (show j < 6 by omega) (show 8 < 10 by omega), nI_1, show x + 0 = x from Int32.add_zero x]
        split
        · split <;> rfl
        · rfl
      · unfold B_X8_there_4
        rw [M_th h, w6, if_pos (nI_le (Nat.le_refl _) (by omega))]
    rw [e]
    rfl
def s_cnt (S : nc_S) (j : Nat) (x : Int32) : Int32 := if s_T S j 7 < 10 then x else x + 1
theorem C_cnt {mi : nc_Mem} {th : Nat} (h : aC mi X = A) (w6 : s_th A.1 = nI th) (w7 : th ≤ 6) : f_X5_carriedThings mi (X + 1) = some (nc_fo (s_cnt A.1) th 0 0) := by
  unfold f_X5_carriedThings
  refine nc_for2 _ some th (fun rc x j hj => ?_) (fun rc x => ?_) (by omega)
  · unfold B_X5_carriedThings_4 s_cnt
    simp only [nc_let_eq]
    rw [C_th h, w6, if_neg (nI_ge hj (by omega)), nc_at_nI (by omega) (by omega), C_rT h (show j < 6 by omega) (show 7 < 10 by omega), nI_1]
    split <;> rfl
  · unfold B_X5_carriedThings_4
    rw [C_th h, w6, if_pos (nI_le (Nat.le_refl _) (by omega))]
theorem M_cnt {mi : nc_Mem} {th : Nat} (h : aM mi M = A) (w6 : s_th A.1 = nI th) (w7 : th ≤ 6) : nc_loop (fun _ _ => none) (B_X8_count_57 mi M) 200 0 0 = some (nc_fo (s_cnt A.1) th 0 0) := by
  refine nc_for2 _ some th (fun rc x j hj => ?_) (fun rc x => ?_) (by omega)
  · unfold B_X8_count_57 s_cnt
    simp only [nc_let_eq]
    rw [M_th h, w6, if_neg (nI_ge hj (by omega)), nc_at_nI (by omega) (by omega), M_rT h (show j < 6 by omega) (show 7 < 10 by omega), nI_1, show x + 0 = x from Int32.add_zero x]
    split <;> rfl
  · unfold B_X8_count_57
    rw [M_th h, w6, if_pos (nI_le (Nat.le_refl _) (by omega))]
theorem sim_count (wf : nc_WF n A) (a : Int32) : nc_SIM n A LS X M (fun mi => (f_X7_count mi X a).map (fun r => (mi, r))) (fun mi => (f_X8_count mi M a).map (fun r => (mi, r))) := by
  obtain ⟨⟨pl, ps, th, ws⟩, wl, wr⟩ := id wf
  obtain ⟨w1, w2, w3, w4, w5, w6, w7, w8, w9, w10, w11⟩ := id ws
  have key : ∃ r, (∀ mi, aC mi X = A → f_X7_count mi X a = some r) ∧ (∀ mi, aM mi M = A → f_X8_count mi M a = some r) := by
    by_cases q0 : a = 0
    · exact ⟨s_pl A.1, fun mi h => by subst q0; exact congrArg some (C_pl h), fun mi h => by subst q0; exact congrArg some (M_pl h)⟩
    by_cases q1 : a = 1
    · exact ⟨s_ps A.1, fun mi h => by subst q1; exact congrArg some (C_ps h), fun mi h => by subst q1; exact congrArg some (M_ps h)⟩
    by_cases q2 : a = 2
    · exact ⟨s_th A.1, fun mi h => by subst q2; exact congrArg some (C_th h), fun mi h => by subst q2; exact congrArg some (M_th h)⟩
    by_cases q3 : a = 3
    · refine ⟨nc_fo (s_cnt A.1) th 0 0, fun mi h => ?_, fun mi h => ?_⟩
      · subst q3
        unfold f_X7_count
        rw [C_cnt h w6 w7]
        rfl
      · subst q3
        exact M_cnt h w6 w7
    by_cases q4 : a = 4
    · exact ⟨A.2.2.1.1, fun mi h => by subst q4; exact congrArg some (C_rc h), fun mi h => by subst q4; exact congrArg some (M_rc h)⟩
    by_cases q5 : a = 5
    · exact ⟨A.2.1.1, fun mi h => by subst q5; exact congrArg some (C_lc h), fun mi h => by subst q5; exact congrArg some (M_lc h)⟩
    by_cases q6 : a ≤ 10
    · have q6' : a < 11 := by
        rw [Int32.le_iff_toInt_le] at q6
        rw [Int32.lt_iff_toInt_lt]
        have e1 : (10 : Int32).toInt = 10 := by decide
        have e2 : (11 : Int32).toInt = 11 := by decide
        omega
      refine ⟨-9, fun mi h => ?_, fun mi h => ?_⟩
      · unfold f_X7_count
        simp only [nc_let_eq]
        rw [if_pos q6, if_neg q0, if_neg q1, if_neg q2, if_neg q3, if_neg q4, if_neg q5]
      · unfold f_X8_count f_X8_in
        rw [if_neg q0, if_neg q1, if_neg q2, if_neg q3, if_neg q4, if_neg q5, if_pos q6', if_pos rfl]
    · have q6' : ¬ a < 11 := by
        rw [Int32.le_iff_toInt_le] at q6
        rw [Int32.lt_iff_toInt_lt]
        have e1 : (10 : Int32).toInt = 10 := by decide
        have e2 : (11 : Int32).toInt = 11 := by decide
        omega
      by_cases q7 : 10 + 7 ≤ a
      · have q7' : 16 < a := by
          rw [Int32.le_iff_toInt_le] at q7
          rw [Int32.lt_iff_toInt_lt]
          have e1 : (10 + 7 : Int32).toInt = 17 := by decide
          have e2 : (16 : Int32).toInt = 16 := by decide
          omega
        refine ⟨-9, fun mi h => ?_, fun mi h => ?_⟩
        · unfold f_X7_count
          simp only [nc_let_eq]
          rw [if_neg q6, if_pos q7, if_neg q0, if_neg q1, if_neg q2, if_neg q3, if_neg q4, if_neg q5]
        · unfold f_X8_count f_X8_in
          rw [if_neg q0, if_neg q1, if_neg q2, if_neg q3, if_neg q4, if_neg q5, if_neg q6', if_pos q7', if_pos rfl]
      · have q7' : ¬ 16 < a := by
          rw [Int32.le_iff_toInt_le] at q7
          rw [Int32.lt_iff_toInt_lt]
          have e1 : (10 + 7 : Int32).toInt = 17 := by decide
          have e2 : (16 : Int32).toInt = 16 := by decide
          omega
        have qn : ¬ a < 0 := fun z => q6' (Int32.lt_trans z (by decide))
        obtain ⟨k, hk, rfl⟩ := nI_of2 (n := 16) (by decide) qn (Int32.not_lt.mp q7')
        have k10 : 10 < k := by
          rcases Nat.lt_or_ge 10 k with z | z
          · exact z
          · exact absurd (show nI k ≤ 10 from nI_le (b := 10) z (by omega)) q6
        have ek : nI k - 10 = nI (k - 10) := by
          obtain ⟨d, rfl⟩ : ∃ d, k = d + 10 := ⟨k - 10, by omega⟩
          rw [Nat.add_sub_cancel, ← nI_add]
          exact Int32.add_sub_cancel _ _
        refine ⟨A.2.2.2 (k - 10), fun mi h => ?_, fun mi h => ?_⟩
        · unfold f_X7_count
          simp only [nc_let_eq]
          rw [if_neg q6, if_neg q7, ek, nc_at_nI (by omega) (by omega), C_rf h (by omega)]
        · unfold f_X8_count f_X8_in
          rw [if_neg q0, if_neg q1, if_neg q2, if_neg q3, if_neg q4, if_neg q5, if_neg q6', if_neg q7', if_neg (by decide), ek, nc_at_nI (by omega) (by omega), M_rf h (by omega)]
  obtain ⟨r, g1, g2⟩ := key
  exact nc_SIM_id wf r (fun mi h hl => by rw [g1 mi h]; rfl) (fun mi h => by rw [g2 mi h]; rfl)
end DEEDS2
