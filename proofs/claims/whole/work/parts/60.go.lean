-- minutes and going
theorem nc_forE1 {R : Type} {B : (Int32 → Option R) → Int32 → Option R} {z : Int32 → Option R} {ok : Nat → Prop} {th : Nat} {k : Option R} (hs : ∀ rc j, j < th → ok j → B rc (nI j) = rc (nI (j + 1))) (he : ∀ rc, B rc (nI th) = k) {n : Nat} (hn : th < n) (ha : ∀ j, j < th → ok j) : nc_loop z B n 0 = k := nc_for1 k th (fun rc j hj => hs rc j hj (ha j hj)) he hn
theorem nc_forE0 {R : Type} {B : (Int32 → Option R) → Int32 → Option R} {z : Int32 → Option R} {ok : Nat → Prop} {th : Nat} {bad : Option R} (hs : ∀ rc j, j < th → ok j → B rc (nI j) = rc (nI (j + 1))) (hb : ∀ rc j, j < th → ¬ ok j → B rc (nI j) = bad) {n : Nat} (hn : th < n) (ha : ¬ ∀ j, j < th → ok j) : nc_loop z B n 0 = bad := by
  have key := nc_loop_ind (z := z) (B := B) (fun r κ => ∀ j, j + r = th → (¬ ∀ i, j ≤ i → i < th → ok i) → κ (nI j) = bad) (fun r k ih j hj hx => by
    cases r with
    | zero => exact absurd (fun i h1 h2 => by omega) hx
    | succ r =>
      by_cases q : ok j
      · rw [hs k j (by omega) q]
        refine ih r (by omega) (j + 1) (by omega) (fun h => hx (fun i h1 h2 => ?_))
        by_cases e : i = j
        · rw [e]; exact q
        · exact h i (by omega) h2
      · exact hb k j (by omega) q) n th hn 0 (by omega) (fun h => ha (fun j hj => h j (Nat.zero_le _) hj))
  exact key
theorem C_least {mi : nc_Mem} {b pl a c : Nat} {S : nc_S} (hl : nc_lst S b mi) (h4 : mi b 4 = nI pl) (h7 : pl ≤ 7) (ha : a < pl) (hc : c < pl) : f_X5_leastBetween mi b (nI a) (nI c) = some (nI (s_D S a c)) := by
  unfold f_X5_leastBetween
  rw [C_isL h4 h7 ha, if_neg (by decide), C_isL h4 h7 hc, if_neg (by decide), nc_rowc (by omega) (by omega), nc_at_nI (by omega) (by omega), hl a c (by omega) (by omega)]
theorem s_wf_ww {S : nc_S} {n pl ps th : Nat} (h : s_wf S n pl ps th) : nc_ww S pl := h.2.2.2.2.2.2.2.2.1
theorem aM_far {mi mi' : nc_Mem} {M : Nat} {A : nc_A} (h : aM mi M = A) (hF : ∀ a k, ¬ (M + 28 ≤ a ∧ a < M + 35) → mi' a k = mi a k) : aM mi' M = A := by
  rw [← h]
  exact aM_fr (fun a k h1 h2 => hF a k (by omega))
theorem frM_far {mi mi' : nc_Mem} {M : Nat} (hF : ∀ a k, ¬ (M + 28 ≤ a ∧ a < M + 35) → mi' a k = mi a k) : nc_frM M mi mi' := fun a k h => hF a k (by omega)
section GO
variable {n : Nat} {A : nc_A} {X M : Nat}
theorem sim_minutes (wf : nc_WF n A) (a b : Int32) : nc_SIM n A (nc_lst A.1 (X + 1)) X M (fun mi => f_X7_minutes mi X a b) (fun mi => f_X8_minutes mi M a b) := by
  obtain ⟨⟨pl, ps, th, ws⟩, wl, wr⟩ := id wf
  obtain ⟨w1, w2, w3, w4, w5, w6, w7, w8, w9, w10, w11⟩ := id ws
  rcases nc_among a (n := pl) (by omega) with ⟨p, hp, rfl⟩ | ha
  · rcases nc_among b (n := pl) (by omega) with ⟨q, hq, rfl⟩ | hb
    · have hDF := s_DF (s_wf_ww ws) w3 hp hq
      refine ⟨if s_D A.1 p q < 1000000 then nI (s_D A.1 p q) else -9, A, nc_WF_mono wf (by omega), fun mi h hl => ⟨mi, ?_, h, nc_frC_r⟩, fun mi h => ?_, rfl⟩
      · show f_X7_minutes mi X _ _ = _
        unfold f_X7_minutes
        simp only [nc_let_eq]
        rw [C_isL ((C_pl h).trans w1) w3 hp, if_neg (by decide), C_isL ((C_pl h).trans w1) w3 hq, if_neg (by decide), C_least hl ((C_pl h).trans w1) w3 hp hq]
        simp only [nc_some_bind]
        by_cases e : s_D A.1 p q < 1000000
        · rw [if_pos e, if_pos (show nI (s_D A.1 p q) < 1000000 from nI_lt (b := 1000000) e (by omega))]
        · rw [if_neg e, if_neg (show ¬ nI (s_D A.1 p q) < 1000000 from nI_nlt (b := 1000000) (by omega) (by omega))]
      · obtain ⟨m1, e1, hf, hF⟩ := M_findFar (M_v h) (s_wf_ww ws) w1 w3
        refine ⟨m1, ?_, aM_far h hF, frM_far hF⟩
        show f_X8_minutes mi M _ _ = _
        unfold f_X8_minutes
        rw [M_isL ((M_pl h).trans w1) w3 hp, M_isL ((M_pl h).trans w1) w3 hq, e1]
        simp only [nc_some_bind, nc_let_eq]
        rw [if_neg (by decide), if_neg (by decide), nc_at_nI (by omega) (by omega), nc_at_nI (by omega) (by omega), hf p q hp hq]
        rcases hDF with ⟨d1, d2⟩ | ⟨d1, d2⟩
        · rw [if_pos (show s_D A.1 p q < 1000000 by omega), ← d1, if_neg (show ¬ 100000 ≤ nI (s_D A.1 p q) from nI_ge (b := 100000) (by omega) (by omega))]
        · rw [if_neg (show ¬ s_D A.1 p q < 1000000 by omega), d2, if_pos (by decide)]
    · refine nc_SIM_ref wf 1 (by omega) (fun mi h hl => ?_) (fun mi h => ?_)
      · show f_X7_minutes mi X _ _ = _
        unfold f_X7_minutes
        simp only [nc_let_eq]
        rw [C_isL ((C_pl h).trans w1) w3 hp, if_neg (by decide), C_isLn ((C_pl h).trans w1) hb, if_pos rfl]
        rfl
      · show f_X8_minutes mi M _ _ = _
        unfold f_X8_minutes
        rw [M_isL ((M_pl h).trans w1) w3 hp, M_isLn ((M_pl h).trans w1) w3 hb]
        rfl
  · refine nc_SIM_ref wf 1 (by omega) (fun mi h hl => ?_) (fun mi h => ?_)
    · show f_X7_minutes mi X _ _ = _
      unfold f_X7_minutes
      simp only [nc_let_eq]
      rw [C_isLn ((C_pl h).trans w1) ha, if_pos rfl]
      rfl
    · show f_X8_minutes mi M _ _ = _
      unfold f_X8_minutes
      rw [M_isLn ((M_pl h).trans w1) w3 ha]
      rfl
theorem nc_fo_all1 {ok : Nat → Prop} {g : Nat → Int32 → Int32} (h1 : ∀ j x, ok j → g j x = x &&& 1) {x0 : Int32} (h01 : x0 = 0 ∨ x0 = 1) : ∀ r j, (∀ i, j ≤ i → i < j + r → ok i) → nc_fo g r j x0 = x0
  | 0, _, _ => rfl
  | r + 1, j, h => by
    show nc_fo g r (j + 1) (g j x0) = _
    have e1 : g j x0 = x0 := by
      rw [h1 j x0 (h j (Nat.le_refl _) (by omega))]
      rcases h01 with rfl | rfl <;> rfl
    rw [e1]
    exact nc_fo_all1 h1 h01 r (j + 1) (fun i a b => h i (by omega) (by omega))
theorem nc_fo_all0 {ok : Nat → Prop} {g : Nat → Int32 → Int32} (h1 : ∀ j x, ok j → g j x = x &&& 1) (h0 : ∀ j x, ¬ ok j → g j x = x &&& 0) : ∀ r j (x0 : Int32), (x0 = 0 ∨ x0 = 1) → (x0 = 0 ∨ ¬ ∀ i, j ≤ i → i < j + r → ok i) → nc_fo g r j x0 = 0
  | 0, _, x0, _, h => h.resolve_right (fun z => z (fun i a b => by omega))
  | r + 1, j, x0, h01, h => by
    show nc_fo g r (j + 1) (g j x0) = _
    by_cases q : ok j
    · have e1 : g j x0 = x0 := by
        rw [h1 j x0 q]
        rcases h01 with rfl | rfl <;> rfl
      rw [e1]
      refine nc_fo_all0 h1 h0 r (j + 1) x0 h01 (h.imp id (fun z c => z (fun i a b => ?_)))
      by_cases e : i = j
      · rw [e]; exact q
      · exact c i (by omega) (by omega)
    · have e1 : g j x0 = 0 := by
        rw [h0 j x0 q]
        rcases h01 with rfl | rfl <;> rfl
      rw [e1]
      exact nc_fo_all0 h1 h0 r (j + 1) 0 (Or.inl rfl) (Or.inl rfl)
theorem sim_go (wf : nc_WF n A) (hn : n ≤ 1000) (a b : Int32) : nc_SIM n A (nc_lst A.1 (X + 1)) X M (fun mi => f_X7_go mi X a b) (fun mi => f_X8_go mi M a b) := by
  obtain ⟨⟨pl, ps, th, ws⟩, wl, wr⟩ := id wf
  obtain ⟨w1, w2, w3, w4, w5, w6, w7, w8, w9, w10, w11⟩ := id ws
  rcases nc_among a (n := ps) (by omega) with ⟨p, hp, rfl⟩ | ha
  · rcases nc_among b (n := pl) (by omega) with ⟨q, hq, rfl⟩ | hb
    · obtain ⟨c, hc, ec⟩ := (w10 p hp).2.2.2.2.2.2
      obtain ⟨o, ho, eo⟩ := (w10 p hp).2.2.2.2.2.1
      have hDF := s_DF (s_wf_ww ws) w3 ho hq
      have hbd : nc_bd n < 2 ^ 30 := by unfold nc_bd; omega
      let ok : Nat → Prop := fun t => ¬ s_T A.1 t 7 = 10 + nI p ∨ s_may A.1 p t (nI c) = 1
      have okd : DecidablePred ok := fun t => inferInstanceAs (Decidable (_ ∨ _))
      have gC : ∀ mi, aC mi X = A → nc_lst A.1 (X + 1) mi → f_X7_go mi X (nI p) (nI q) = if s_D A.1 o q < 1000000 ∧ ∀ t, t < th → ok t then some (nc_up (nc_up mi (X + 1 + 5 + p) 5 (nI q)) (X + 1 + 5 + p) 6 (nI (c + s_D A.1 o q)), nI (c + s_D A.1 o q)) else Option.bind (f_X7_refuse mi X (-(nI 3))) (fun q => some (q.1, q.2)) := by
        intro mi h hl
        have wk : f_X5_walkTo mi (X + 1) (nI p) (nI q) = if s_D A.1 o q < 1000000 ∧ ∀ t, t < th → ok t then some (nc_up (nc_up mi (X + 1 + 5 + p) 5 (nI q)) (X + 1 + 5 + p) 6 (nI (c + s_D A.1 o q)), 1) else some (mi, 0) := by
          unfold f_X5_walkTo
          simp only [nc_let_eq]
          rw [nc_at_nI (by omega) (by omega), C_rP h (by omega) (by omega), eo, C_least hl ((C_pl h).trans w1) w3 ho hq]
          simp only [nc_some_bind]
          rw [nc_up_ne (by omega), C_rP h (by omega) (by omega), ec, nI_add]
          by_cases e : s_D A.1 o q < 1000000
          · rw [if_pos (show nI (s_D A.1 o q) < 1000000 from nI_lt (b := 1000000) e (by omega))]
            have hB1 : ∀ k4 rc j, j < th → ok j → B_X5_walkTo_30 mi (X + 1) (nI p) p k4 rc (nI j) = rc (nI (j + 1)) := by
              intro k4 rc j hj hok
              unfold B_X5_walkTo_30
              simp only [nc_let_eq]
              rw [C_th h, w6, if_neg (nI_ge hj (by omega)), nc_at_nI (by omega) (by omega), C_rT h (by omega) (by omega), C_rP h (by omega) (by omega), ec, C_lets h ws hn hp hj ⟨c, hc, rfl⟩ (by omega), nI_1]
              simp only [nc_some_bind]
              by_cases q1 : s_T A.1 j 7 = 10 + nI p
              · rw [if_pos q1, hok.resolve_left (fun z => z q1), if_neg (by decide)]
              · rw [if_neg q1]
            have hB0 : ∀ k4 rc j, j < th → ¬ ok j → B_X5_walkTo_30 mi (X + 1) (nI p) p k4 rc (nI j) = some (mi, 0) := by
              intro k4 rc j hj hok
              unfold B_X5_walkTo_30
              simp only [nc_let_eq]
              rw [C_th h, w6, if_neg (nI_ge hj (by omega)), nc_at_nI (by omega) (by omega), C_rT h (by omega) (by omega), C_rP h (by omega) (by omega), ec, C_lets h ws hn hp hj ⟨c, hc, rfl⟩ (by omega), nI_1]
              simp only [nc_some_bind]
              have q1 : s_T A.1 j 7 = 10 + nI p := Classical.byContradiction (fun z => hok (Or.inl z))
              have q2 : s_may A.1 p j (nI c) = 0 := (s_may_01 A.1 p j (nI c)).resolve_right (fun z => hok (Or.inr z))
              rw [if_pos q1, q2, if_pos rfl]
            by_cases q0 : ∀ t, t < th → ok t
            · rw [if_pos ⟨e, q0⟩]
              exact nc_forE1 (hB1 _) (fun rc => by
                unfold B_X5_walkTo_30
                rw [C_th h, w6, if_pos (nI_le (Nat.le_refl _) (by omega))]) (by omega) q0
            · rw [if_neg (fun z => q0 z.2)]
              exact nc_forE0 (hB1 _) (hB0 _) (by omega) q0
          · rw [if_neg (show ¬ nI (s_D A.1 o q) < 1000000 from nI_nlt (b := 1000000) (by omega) (by omega)), if_neg (fun z => e z.1)]
        unfold f_X7_go
        simp only [nc_let_eq]
        rw [C_isP ((C_ps h).trans w4) w5 hp, if_neg (by decide), C_isL ((C_pl h).trans w1) w3 hq, if_neg (by decide), wk]
        by_cases q0 : s_D A.1 o q < 1000000 ∧ ∀ t, t < th → ok t
        · rw [if_pos q0, if_pos q0]
          simp only [nc_some_bind]
          rw [if_neg (by decide), nc_at_nI (by omega) (by omega), nc_up_same]
        · rw [if_neg q0, if_neg q0]
          rfl
      have gM : ∀ mi, aM mi M = A → ∃ m1, (∀ a k, ¬ (M + 28 ≤ a ∧ a < M + 35) → m1 a k = mi a k) ∧ f_X8_go mi M (nI p) (nI q) = if s_D A.1 o q < 1000000 ∧ ∀ t, t < th → ok t then some (nc_up (nc_up m1 (M + 12 + 1 + p) 5 (nI q)) (M + 12 + 1 + p) 6 (nI (c + s_D A.1 o q)), nI (c + s_D A.1 o q)) else Option.bind (f_X8_refuse m1 M (-(nI 3))) (fun q => some (q.1, q.2)) := by
        intro mi h0
        obtain ⟨m1, e1, hf, hF⟩ := M_findFar (M_v h0) (s_wf_ww ws) w1 w3
        have h : aM m1 M = A := aM_far h0 hF
        refine ⟨m1, hF, ?_⟩
        have fin : ∀ x0 v : Int32, ∀ B, (B = B_X8_go_58 ∨ B = B_X8_go_58_52) → (x0 = 0 ∨ x0 = 1) → ∀ K : Int32 → Option (nc_Mem × Int32), nc_loop (fun _ _ => none) (B M (nI p) m1 p K) 200 x0 0 = K (if ∀ t, t < th → ok t then x0 else 0) := by
          intro x0 v B hB h01 K
          have e9 : (if ∀ t, t < th → ok t then x0 else 0) = nc_fo (fun j x => if ok j then x &&& 1 else x &&& 0) th 0 x0 := by
            by_cases q0 : ∀ t, t < th → ok t
            · rw [if_pos q0]
              exact (nc_fo_all1 (ok := ok) (fun j x h => if_pos h) h01 th 0 (fun i _ h2 => q0 i (by omega))).symm
            · rw [if_neg q0]
              exact (nc_fo_all0 (ok := ok) (fun j x h => if_pos h) (fun j x h => if_neg h) th 0 x0 h01 (Or.inr (fun z => q0 (fun i hi => z i (Nat.zero_le _) (by omega))))).symm
          rw [e9]
          refine nc_for2 _ K th (fun rc x j hj => ?_) (fun rc x => ?_) (by omega)
          · have es : B M (nI p) m1 p K rc x (nI j) = if s_T A.1 j 7 = 10 + nI p then (if s_may A.1 p j (nI c) = 0 then rc (x &&& 0) (nI (j + 1)) else rc (x &&& 1) (nI (j + 1))) else rc (x &&& 1) (nI (j + 1)) := by
              rcases hB with rfl | rfl
              · unfold B_X8_go_58
                simp only [nc_let_eq]
                rw [M_th h, w6, if_neg (nI_ge hj (by omega)), nc_at_nI (by omega) (by omega), M_rT h (by omega) (by omega), M_rP h (by omega) (by omega), ec, M_may h ws hp hj, nI_1]
                rfl
              · unfold B_X8_go_58_52
                simp only [nc_let_eq]
                rw [M_th h, w6, if_neg (nI_ge hj (by omega)), nc_at_nI (by omega) (by omega), M_rT h (by omega) (by omega), M_rP h (by omega) (by omega), ec, M_may h ws hp hj, nI_1]
                rfl
            rw [es]
            by_cases q1 : s_T A.1 j 7 = 10 + nI p
            · rw [if_pos q1]
              rcases s_may_01 A.1 p j (nI c) with q2 | q2
              · have no : ¬ ok j := fun z => z.elim (fun z => z q1) (fun z => absurd (q2.symm.trans z) (by decide))
                show _ = rc (if ok j then x &&& 1 else x &&& 0) _
                rw [if_pos q2, if_neg no]
              · show _ = rc (if ok j then x &&& 1 else x &&& 0) _
                rw [if_neg (by rw [q2]; decide), if_pos (Or.inr q2)]
            · show _ = rc (if ok j then x &&& 1 else x &&& 0) _
              rw [if_neg q1, if_pos (Or.inl q1)]
          · rcases hB with rfl | rfl
            · unfold B_X8_go_58
              rw [M_th h, w6, if_pos (nI_le (Nat.le_refl _) (by omega))]
            · unfold B_X8_go_58_52
              rw [M_th h, w6, if_pos (nI_le (Nat.le_refl _) (by omega))]
        unfold f_X8_go
        rw [M_isP ((M_ps h0).trans w4) w5 hp, M_isL ((M_pl h0).trans w1) w3 hq, e1]
        simp only [nc_some_bind, nc_let_eq]
        rw [if_neg (by decide), if_neg (by decide), nc_at_nI (by omega) (by omega), M_rP h (by omega) (by omega), eo, nc_at_nI (by omega) (by omega), nc_at_nI (by omega) (by omega), hf o q ho hq, fin 0 0 _ (Or.inl rfl) (Or.inl rfl), fin 1 0 _ (Or.inr rfl) (Or.inr rfl)]
        rcases hDF with ⟨d1, d2⟩ | ⟨d1, d2⟩
        · rw [← d1, if_neg (show ¬ 100000 ≤ nI (s_D A.1 o q) from nI_ge (b := 100000) (by omega) (by omega))]
          by_cases q0 : ∀ t, t < th → ok t
          · rw [if_pos q0, if_neg (by decide), if_pos ⟨by omega, q0⟩, nc_up_ne (by omega), M_rP h (by omega) (by omega), ec, nI_add, nc_up_same]
          · rw [if_neg q0, if_pos rfl, if_neg (fun z => q0 z.2)]
            rfl
        · have e8 : (if ∀ t, t < th → ok t then (0 : Int32) else 0) = 0 := by split <;> rfl
          have e7 : ¬ (s_D A.1 o q < 1000000 ∧ ∀ t, t < th → ok t) := fun z => by omega
          rw [d2, if_pos (show 100000 ≤ nI 100000 by decide), e8, if_pos rfl, if_neg e7]
          rfl
      by_cases q0 : s_D A.1 o q < 1000000 ∧ ∀ t, t < th → ok t
      · have d2 : s_D A.1 o q ≤ 7680 := by omega
        refine ⟨nI (c + s_D A.1 o q), (s_setP (s_setP A.1 p 5 (nI q)) p 6 (nI (c + s_D A.1 o q)), A.2), ⟨⟨pl, ps, th, ?_⟩, wf.2⟩, fun mi h hl => ⟨_, (gC mi h hl).trans (if_pos q0), ?_, ?_⟩, fun mi h => ?_, rfl⟩
        · exact s_wf_P (s_wf_P ws (Nat.le_refl n) (Or.inl ⟨rfl, q, hq, rfl⟩)) (Nat.le_succ n) (Or.inr ⟨rfl, _, by unfold nc_bd at *; omega, rfl⟩)
        · rw [aC_uP (by omega) (by omega), aC_uP (by omega) (by omega), h]
        · exact nc_frC_u (nc_frC_u nc_frC_r (by omega)) (by omega)
        · obtain ⟨m1, hF, e⟩ := gM mi h
          refine ⟨_, e.trans (if_pos q0), ?_, ?_⟩
          · rw [aM_uP (by omega) (by omega), aM_uP (by omega) (by omega), aM_far h hF]
          · exact nc_frM_u (nc_frM_u (frM_far hF) (by omega)) (by omega)
      · refine ⟨-(nI 3), a_setR A 3 (A.2.2.2 3 + 1), nc_WF_setR wf _ _, fun mi h hl => ⟨_, ((gC mi h hl).trans (if_neg q0)).trans (C_ref h (by omega)), ?_, ?_⟩, fun mi h => ?_, rfl⟩
        · rw [aC_uR (by omega), h]
        · exact nc_frC_u nc_frC_r (by omega)
        · obtain ⟨m1, hF, e⟩ := gM mi h
          refine ⟨_, (e.trans (if_neg q0)).trans (M_ref (aM_far h hF) (by omega)), ?_, ?_⟩
          · rw [aM_uR (by omega), aM_far h hF]
          · exact nc_frM_u (frM_far hF) (by omega)
    · refine nc_SIM_ref wf 1 (by omega) (fun mi h hl => ?_) (fun mi h => ?_)
      · show f_X7_go mi X _ _ = _
        unfold f_X7_go
        simp only [nc_let_eq]
        rw [C_isP ((C_ps h).trans w4) w5 hp, if_neg (by decide), C_isLn ((C_pl h).trans w1) hb, if_pos rfl]
        rfl
      · show f_X8_go mi M _ _ = _
        unfold f_X8_go
        rw [M_isP ((M_ps h).trans w4) w5 hp, M_isLn ((M_pl h).trans w1) w3 hb]
        rfl
  · refine nc_SIM_ref wf 1 (by omega) (fun mi h hl => ?_) (fun mi h => ?_)
    · show f_X7_go mi X _ _ = _
      unfold f_X7_go
      simp only [nc_let_eq]
      rw [C_isPn ((C_ps h).trans w4) ha, if_pos rfl]
      rfl
    · show f_X8_go mi M _ _ = _
      unfold f_X8_go
      rw [M_isPn ((M_ps h).trans w4) w5 ha]
      rfl
end GO
