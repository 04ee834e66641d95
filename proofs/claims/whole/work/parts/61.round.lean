-- rounds in mind
def s_cl (x : Int32) : Nat := x.toNatClampNeg
theorem s_cl_nI {d : Nat} (h : d < 2 ^ 31) : s_cl (nI d) = d := nI_clamp h
def s_mind (S : nc_S) (rule : Int32) (p t : Nat) (mn al : Int32) : Int32 := if s_P S p 4 < s_T S t 4 then 0 else if nI p = al then 1 else s_lets S rule p t mn (-9)
theorem s_mind_01 (S : nc_S) (rule : Int32) (p t : Nat) (mn al : Int32) : s_mind S rule p t mn al = 0 ∨ s_mind S rule p t mn al = 1 := by
  unfold s_mind
  split
  · exact Or.inl rfl
  · split
    · exact Or.inr rfl
    · exact s_lets_01 _ _ _ _ _ _
theorem nI_ne9 {p : Nat} (h : p < 2 ^ 31) : ¬ nI p = -9 := fun e => nI_pos h (by rw [e]; decide)
theorem M_mind {mi : nc_Mem} {M n pl ps th p t : Nat} {A : nc_A} (h : aM mi M = A) (wf : s_wf A.1 n pl ps th) (hp : p < ps) (ht : t < th) {rule mn al : Int32} (hr : nc_ok rule 5) : f_X8_mayInMind mi M rule (nI p) (nI t) mn al = some (s_mind A.1 rule p t mn al) := by
  have h5 := wf.2.2.2.2.1
  have h7 := wf.2.2.2.2.2.2.1
  unfold f_X8_mayInMind f_X8_isFree s_mind
  rw [nc_at_nI (by omega) (by omega), nc_at_nI (by omega) (by omega), M_rP h (by omega) (by omega), M_rT h (by omega) (by omega), M_lets (M_v h) wf hp ht hr]
  by_cases c : s_P A.1 p 4 < s_T A.1 t 4
  · rw [if_pos c, if_pos c]
    rfl
  · rw [if_neg c, if_neg c]
    simp only [nc_some_bind]
    rw [if_neg (by decide), nc_b01 (s_lets_01 _ _ _ _ _ _)]
    split <;> rfl
def s_Dp (S : nc_S) (a c : Int32) : Nat := s_D S (s_cl a) (s_cl c)
def s_rnd (S : nc_S) (p t : Nat) : Int32 :=
  if s_Dp S (s_P S p 0) (s_T S t 2) < 1000000 ∧ s_Dp S (s_T S t 2) (s_T S t 3) < 1000000 ∧ s_Dp S (s_T S t 3) (s_P S p 1) < 1000000 ∧ s_mind S (s_lw S) p t (s_P S p 2 + nI (s_Dp S (s_P S p 0) (s_T S t 2))) (-9) = 1 ∧ s_P S p 2 + nI (s_Dp S (s_P S p 0) (s_T S t 2)) + nI (s_Dp S (s_T S t 2) (s_T S t 3)) ≤ s_T S t 5 then s_P S p 2 + nI (s_Dp S (s_P S p 0) (s_T S t 2)) + nI (s_Dp S (s_T S t 2) (s_T S t 3)) else -9
def s_more (S : nc_S) (p t : Nat) : Int32 := nI (s_Dp S (s_P S p 0) (s_T S t 2)) + nI (s_Dp S (s_T S t 2) (s_T S t 3)) + nI (s_Dp S (s_T S t 3) (s_P S p 1)) - nI (s_Dp S (s_P S p 0) (s_P S p 1))
theorem s_D_le {S : nc_S} {pl : Nat} (hw : nc_ww S pl) (a c : Nat) : s_D S a c ≤ 1000000 := fw_le (fun a c => Nat.le_trans (s_wn_le (fun a c ha hc => (hw a c ha hc).1) a c) (by omega)) 7 a c
section RND
variable {n : Nat} {A : nc_A} {X M pl ps th p t : Nat} {mi : nc_Mem}
theorem C_round (h : aC mi X = A) (hl : nc_lst A.1 (X + 1) mi) (ws : s_wf A.1 n pl ps th) (hp : p < ps) (ht : t < th) : f_X5_roundMinute mi (X + 1) (nI p) (nI t) = some (s_rnd A.1 p t) := by
  obtain ⟨w1, w2, w3, w4, w5, w6, w7, w8, w9, w10, w11⟩ := id ws
  obtain ⟨⟨pa, hpa, epa⟩, ⟨pb, hpb, epb⟩, ⟨pf, hpf, epf⟩, -⟩ := w10 p hp
  obtain ⟨-, -, ⟨ta, hta, eta⟩, ⟨tb, htb, etb⟩, -, ⟨y, hy, ey⟩, -⟩ := w11 t ht
  have h4 := (C_pl h).trans w1
  have l1 := s_D_le (s_wf_ww ws) pa ta
  have l2 := s_D_le (s_wf_ww ws) ta tb
  have l3 := s_D_le (s_wf_ww ws) tb pb
  have hlaw := C_lawLets (C_v h) ws hp ht (rule := s_lw A.1) (mn := nI (pf + s_D A.1 pa ta)) (gv := -9) (N := 2 ^ 30) (Nat.le_refl _) ⟨pf + s_D A.1 pa ta, by omega, rfl⟩ (Or.inl rfl)
  unfold f_X5_roundMinute s_rnd s_Dp s_mind f_X5_fits
  simp only [nc_let_eq]
  rw [nc_at_nI (by omega) (by omega), nc_at_nI (by omega) (by omega), nc_at_nI (by omega) (by omega), nc_at_nI (by omega) (by omega), C_rP h (show p < 6 by omega) (show 0 < 7 by omega), C_rT h (show t < 6 by omega) (show 2 < 10 by omega), C_rT h (show t < 6 by omega) (show 3 < 10 by omega), C_rP h (show p < 6 by omega) (show 1 < 7 by omega), C_rP h (show p < 6 by omega) (show 2 < 7 by omega), C_rP h (show p < 6 by omega) (show 4 < 7 by omega), C_rT h (show t < 6 by omega) (show 4 < 10 by omega), C_rT h (show t < 6 by omega) (show 5 < 10 by omega), epa, epb, epf, eta, etb, ey, s_cl_nI (by omega), s_cl_nI (by omega), s_cl_nI (by omega), s_cl_nI (by omega), C_least hl h4 w3 hpa hta, C_least hl h4 w3 hta htb, C_least hl h4 w3 htb hpb, C_lw h]
  simp only [nc_some_bind]
  rw [nI_add, nI_add, hlaw]
  simp only [nc_some_bind]
  by_cases c1 : s_D A.1 pa ta < 1000000
  · rw [if_neg (show ¬ 1000000 ≤ nI (s_D A.1 pa ta) from nI_ge (b := 1000000) c1 (by omega))]
    by_cases c2 : s_D A.1 ta tb < 1000000
    · rw [if_neg (show ¬ 1000000 ≤ nI (s_D A.1 ta tb) from nI_ge (b := 1000000) c2 (by omega))]
      by_cases c3 : s_D A.1 tb pb < 1000000
      · rw [if_pos (show nI (s_D A.1 tb pb) < 1000000 from nI_lt (b := 1000000) c3 (by omega))]
        by_cases c4 : s_P A.1 p 4 < s_T A.1 t 4
        · have z01 : ¬ (0 : Int32) = 1 := by decide
          simp only [if_pos c4, nc_some_bind, if_true, z01, false_and, and_false, if_false]
        · rw [if_neg c4, if_neg c4, if_neg (show ¬ nI p = -9 from nI_ne9 (by omega))]
          simp only [nc_some_bind]
          rw [if_neg (by decide)]
          rcases s_lets_01 A.1 (s_lw A.1) p t (nI (pf + s_D A.1 pa ta)) (-9) with c5 | c5
          · rw [if_pos c5, c5, if_neg (fun z => absurd z.2.2.2.1 (by decide))]
          · rw [c5, if_neg (by decide)]
            by_cases c6 : nI (pf + s_D A.1 pa ta + s_D A.1 ta tb) ≤ nI y
            · rw [if_pos c6, if_pos ⟨c1, c2, c3, rfl, c6⟩]
            · rw [if_neg c6, if_neg (fun z => c6 z.2.2.2.2)]
      · rw [if_neg (show ¬ nI (s_D A.1 tb pb) < 1000000 from nI_nlt (b := 1000000) (by omega) (by omega)), if_neg (fun z => c3 z.2.2.1)]
    · rw [if_pos (show 1000000 ≤ nI (s_D A.1 ta tb) from nI_le (a := 1000000) (by omega) (by omega)), if_neg (fun z => c2 z.2.1)]
  · rw [if_pos (show 1000000 ≤ nI (s_D A.1 pa ta) from nI_le (a := 1000000) (by omega) (by omega)), if_neg (fun z => c1 z.1)]
theorem C_more (h : aC mi X = A) (hl : nc_lst A.1 (X + 1) mi) (ws : s_wf A.1 n pl ps th) (hp : p < ps) (ht : t < th) : f_X5_roundMore mi (X + 1) (nI p) (nI t) = some (s_more A.1 p t) := by
  obtain ⟨w1, w2, w3, w4, w5, w6, w7, w8, w9, w10, w11⟩ := id ws
  obtain ⟨⟨pa, hpa, epa⟩, ⟨pb, hpb, epb⟩, ⟨pf, hpf, epf⟩, -⟩ := w10 p hp
  obtain ⟨-, -, ⟨ta, hta, eta⟩, ⟨tb, htb, etb⟩, -, ⟨y, hy, ey⟩, -⟩ := w11 t ht
  have h4 := (C_pl h).trans w1
  unfold f_X5_roundMore s_more s_Dp
  rw [nc_at_nI (by omega) (by omega), nc_at_nI (by omega) (by omega), C_rP h (show p < 6 by omega) (show 0 < 7 by omega), C_rT h (show t < 6 by omega) (show 2 < 10 by omega), C_rT h (show t < 6 by omega) (show 3 < 10 by omega), C_rP h (show p < 6 by omega) (show 1 < 7 by omega), epa, epb, eta, etb, s_cl_nI (by omega), s_cl_nI (by omega), s_cl_nI (by omega), s_cl_nI (by omega), C_least hl h4 w3 hpa hta, C_least hl h4 w3 hta htb, C_least hl h4 w3 htb hpb, C_least hl h4 w3 hpa hpb]
  rfl
def nc_fr_far (S : nc_S) (M pl : Nat) (mi : nc_Mem) : Prop := ∀ a c, a < pl → c < pl → mi (M + 27 + 1 + a) c = nI (s_F S pl a c)
theorem M_round (h : aM mi M = A) (hf : nc_fr_far A.1 M pl mi) (ws : s_wf A.1 n pl ps th) (hp : p < ps) (ht : t < th) : f_X8_roundOf mi M (nI p) (nI t) = some (s_rnd A.1 p t) := by
  obtain ⟨w1, w2, w3, w4, w5, w6, w7, w8, w9, w10, w11⟩ := id ws
  obtain ⟨⟨pa, hpa, epa⟩, ⟨pb, hpb, epb⟩, ⟨pf, hpf, epf⟩, -⟩ := w10 p hp
  obtain ⟨-, -, ⟨ta, hta, eta⟩, ⟨tb, htb, etb⟩, -, ⟨y, hy, ey⟩, -⟩ := w11 t ht
  have d1 := s_DF (s_wf_ww ws) w3 hpa hta
  have d2 := s_DF (s_wf_ww ws) w3 hta htb
  have d3 := s_DF (s_wf_ww ws) w3 htb hpb
  unfold f_X8_roundOf s_rnd s_Dp
  simp only [nc_let_eq]
  rw [nc_at_nI (by omega) (by omega), nc_at_nI (by omega) (by omega), M_rP h (show p < 6 by omega) (show 0 < 7 by omega), M_rT h (show t < 6 by omega) (show 2 < 10 by omega), M_rT h (show t < 6 by omega) (show 3 < 10 by omega), M_rP h (show p < 6 by omega) (show 1 < 7 by omega), M_rP h (show p < 6 by omega) (show 2 < 7 by omega), M_rT h (show t < 6 by omega) (show 5 < 10 by omega), epa, epb, epf, eta, etb, ey, s_cl_nI (by omega), s_cl_nI (by omega), s_cl_nI (by omega), s_cl_nI (by omega), nc_at_nI (by omega) (by omega), nc_at_nI (by omega) (by omega), nc_at_nI (by omega) (by omega), nc_at_nI (by omega) (by omega), hf pa ta hpa hta, hf ta tb hta htb, hf tb pb htb hpb, M_lw h, M_mind h ws hp ht w8]
  simp only [nc_some_bind]
  rcases d1 with ⟨a1, b1⟩ | ⟨a1, b1⟩
  · rw [← a1, if_neg (show ¬ 100000 ≤ nI (s_D A.1 pa ta) from nI_ge (b := 100000) (by omega) (by omega))]
    rcases d2 with ⟨a2, b2⟩ | ⟨a2, b2⟩
    · rw [← a2, if_neg (show ¬ 100000 ≤ nI (s_D A.1 ta tb) from nI_ge (b := 100000) (by omega) (by omega))]
      rcases d3 with ⟨a3, b3⟩ | ⟨a3, b3⟩
      · rw [← a3, if_pos (show nI (s_D A.1 tb pb) < 100000 from nI_lt (b := 100000) (by omega) (by omega))]
        rcases s_mind_01 A.1 (s_lw A.1) p t (nI pf + nI (s_D A.1 pa ta)) (-9) with c5 | c5
        · rw [if_pos c5, if_neg (fun z => absurd (c5.symm.trans z.2.2.2.1) (by decide))]
        · rw [if_neg (by rw [c5]; decide)]
          by_cases c6 : nI y < nI pf + nI (s_D A.1 pa ta) + nI (s_D A.1 ta tb)
          · rw [if_pos c6, if_neg (fun z => Int32.not_le.mpr c6 z.2.2.2.2)]
          · rw [if_neg c6, if_pos ⟨by omega, by omega, by omega, c5, Int32.not_lt.mp c6⟩]
      · rw [b3, if_neg (show ¬ nI 100000 < 100000 by decide), if_neg (fun z => by have := z.2.2.1; omega)]
    · rw [b2, if_pos (show 100000 ≤ nI 100000 by decide), if_neg (fun z => by have := z.2.1; omega)]
  · rw [b1, if_pos (show 100000 ≤ nI 100000 by decide), if_neg (fun z => by have := z.1; omega)]
theorem M_more (h : aM mi M = A) (hf : nc_fr_far A.1 M pl mi) (ws : s_wf A.1 n pl ps th) (hp : p < ps) (ht : t < th) (hr : ¬ s_rnd A.1 p t = -9) : f_X8_moreOf mi M (nI p) (nI t) = some (s_more A.1 p t) := by
  obtain ⟨w1, w2, w3, w4, w5, w6, w7, w8, w9, w10, w11⟩ := id ws
  obtain ⟨⟨pa, hpa, epa⟩, ⟨pb, hpb, epb⟩, ⟨pf, hpf, epf⟩, -⟩ := w10 p hp
  obtain ⟨-, -, ⟨ta, hta, eta⟩, ⟨tb, htb, etb⟩, -, ⟨y, hy, ey⟩, -⟩ := w11 t ht
  have d1 := s_DF (s_wf_ww ws) w3 hpa hta
  have d2 := s_DF (s_wf_ww ws) w3 hta htb
  have d3 := s_DF (s_wf_ww ws) w3 htb hpb
  have d4 := s_DF (s_wf_ww ws) w3 hpa hpb
  have t1 : s_D A.1 pa pb ≤ s_D A.1 pa ta + s_D A.1 ta pb := fw_tri _ _ 7 ta pa pb (by omega)
  have t2 : s_D A.1 ta pb ≤ s_D A.1 ta tb + s_D A.1 tb pb := fw_tri _ _ 7 tb ta pb (by omega)
  have hr' : s_D A.1 pa ta < 1000000 ∧ s_D A.1 ta tb < 1000000 ∧ s_D A.1 tb pb < 1000000 := by
    unfold s_rnd s_Dp at hr
    rw [epa, eta, etb, epb, s_cl_nI (by omega), s_cl_nI (by omega), s_cl_nI (by omega), s_cl_nI (by omega)] at hr
    by_cases c : s_D A.1 pa ta < 1000000 ∧ s_D A.1 ta tb < 1000000 ∧ s_D A.1 tb pb < 1000000
    · exact c
    · rw [if_neg (fun z => c ⟨z.1, z.2.1, z.2.2.1⟩)] at hr
      exact absurd rfl hr
  unfold f_X8_moreOf s_more s_Dp
  rw [nc_at_nI (by omega) (by omega), nc_at_nI (by omega) (by omega), M_rP h (show p < 6 by omega) (show 0 < 7 by omega), M_rT h (show t < 6 by omega) (show 2 < 10 by omega), M_rT h (show t < 6 by omega) (show 3 < 10 by omega), M_rP h (show p < 6 by omega) (show 1 < 7 by omega), epa, epb, eta, etb, s_cl_nI (by omega), s_cl_nI (by omega), s_cl_nI (by omega), s_cl_nI (by omega), nc_at_nI (by omega) (by omega), nc_at_nI (by omega) (by omega), nc_at_nI (by omega) (by omega), nc_at_nI (by omega) (by omega), hf pa ta hpa hta, hf ta tb hta htb, hf tb pb htb hpb, hf pa pb hpa hpb]
  rw [← (show s_D A.1 pa ta = s_F A.1 pl pa ta by omega), ← (show s_D A.1 ta tb = s_F A.1 pl ta tb by omega), ← (show s_D A.1 tb pb = s_F A.1 pl tb pb by omega), ← (show s_D A.1 pa pb = s_F A.1 pl pa pb by omega)]
theorem sim_round (wf : nc_WF n A) (a b c : Int32) : nc_SIM n A (nc_lst A.1 (X + 1)) X M (fun mi => f_X7_round mi X a b c) (fun mi => f_X8_round mi M a b c) := by
  refine sim_pt (g1 := fun mi a b => f_X7_round mi X a b c) (g2 := fun mi a b => f_X8_round mi M a b c) wf a b (fun mi ps e hs ha => ?_) (fun mi ps e hs ha => ?_) (fun mi ps p th e hs hp ea e' ht hb => ?_) (fun mi ps p th e hs hp ea e' ht hb => ?_) (fun pl ps th p t ws hp ht ea eb => ?_)
  · show f_X7_round mi X a b c = _
    unfold f_X7_round
    simp only [nc_let_eq]
    rw [C_isPn e ha, if_pos rfl]
    rfl
  · show f_X8_round mi M a b c = _
    unfold f_X8_round
    rw [M_isPn e hs ha]
    rfl
  · show f_X7_round mi X a b c = _
    subst ea
    unfold f_X7_round
    simp only [nc_let_eq]
    rw [C_isP e hs hp, if_neg (by decide), C_isTn e' hb, if_pos rfl]
    rfl
  · show f_X8_round mi M a b c = _
    subst ea
    unfold f_X8_round
    rw [M_isP e hs hp, M_isTn e' ht hb]
    rfl
  · subst ea eb
    obtain ⟨w1, w2, w3, w4, w5, w6, w7, w8, w9, w10, w11⟩ := id ws
    by_cases c0 : c < 0
    · refine nc_SIM_ref wf 2 (by omega) (fun mi h hl => ?_) (fun mi h => ?_)
      · show f_X7_round mi X _ _ c = _
        unfold f_X7_round
        simp only [nc_let_eq]
        rw [C_isP ((C_ps h).trans w4) w5 hp, if_neg (by decide), C_isT ((C_th h).trans w6) w7 ht, if_neg (by decide), if_pos c0]
        rfl
      · show f_X8_round mi M _ _ c = _
        unfold f_X8_round f_X8_in
        rw [M_isP ((M_ps h).trans w4) w5 hp, M_isT ((M_th h).trans w6) w7 ht]
        simp only [nc_some_bind, nc_let_eq]
        rw [if_neg (by decide), if_neg (by decide), if_pos c0]
        rfl
    · by_cases c1 : c ≤ 1
      · refine ⟨if s_rnd A.1 p t = -9 then -9 else if c = 0 then s_rnd A.1 p t else s_more A.1 p t, A, nc_WF_mono wf (by omega), fun mi h hl => ⟨mi, ?_, h, nc_frC_r⟩, fun mi h => ?_, rfl⟩
        · show f_X7_round mi X _ _ c = _
          unfold f_X7_round
          simp only [nc_let_eq]
          rw [C_isP ((C_ps h).trans w4) w5 hp, if_neg (by decide), C_isT ((C_th h).trans w6) w7 ht, if_neg (by decide), if_neg c0, if_pos c1, C_round h hl ws hp ht, C_more h hl ws hp ht]
          simp only [nc_some_bind]
          by_cases q : s_rnd A.1 p t = -9
          · rw [if_pos q, if_pos q, q]
          · rw [if_neg q, if_neg q]
            split <;> rfl
        · obtain ⟨m1, e1, hf, hF⟩ := M_findFar (M_v h) (s_wf_ww ws) w1 w3
          have h' := aM_far h hF
          refine ⟨m1, ?_, h', frM_far hF⟩
          show f_X8_round mi M _ _ c = _
          unfold f_X8_round f_X8_in
          rw [M_isP ((M_ps h).trans w4) w5 hp, M_isT ((M_th h).trans w6) w7 ht, e1]
          simp only [nc_some_bind, nc_let_eq]
          rw [if_neg (by decide), if_neg (by decide), if_neg c0, if_neg (Int32.not_lt.mpr c1), if_neg (by decide), M_round h' hf ws hp ht]
          simp only [nc_some_bind]
          by_cases q : s_rnd A.1 p t = -9
          · rw [if_pos q, if_pos q, q]
          · rw [if_neg q, if_neg q, M_more h' hf ws hp ht q]
            split <;> rfl
      · refine nc_SIM_ref wf 2 (by omega) (fun mi h hl => ?_) (fun mi h => ?_)
        · show f_X7_round mi X _ _ c = _
          unfold f_X7_round
          simp only [nc_let_eq]
          rw [C_isP ((C_ps h).trans w4) w5 hp, if_neg (by decide), C_isT ((C_th h).trans w6) w7 ht, if_neg (by decide), if_neg c0, if_neg c1]
          rfl
        · show f_X8_round mi M _ _ c = _
          unfold f_X8_round f_X8_in
          rw [M_isP ((M_ps h).trans w4) w5 hp, M_isT ((M_th h).trans w6) w7 ht]
          simp only [nc_some_bind, nc_let_eq]
          rw [if_neg (by decide), if_neg (by decide), if_neg c0, if_pos (Int32.not_le.mp c1)]
          rfl
end RND
