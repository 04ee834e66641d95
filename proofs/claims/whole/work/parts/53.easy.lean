-- the easy methods
theorem aC_add {mi : nc_Mem} {X L : Nat} {v w : Int32} (hL : L < 64) : aC (nc_up (nc_up mi (X + 52 + 1) L v) (X + 52) 2 w) X = ((aC mi X).1, (w, fun i => if i = L then v else (aC mi X).2.1.2 i), (aC mi X).2.2) := by
  simp only [aC, Prod.mk.injEq]
  refine ⟨vC_fr (fun a k h1 h2 h3 => by rw [nc_up_na (by omega), nc_up_na (by omega)]), ⟨?_, ?_⟩, ⟨?_, ?_⟩, ?_⟩ <;> (try funext i) <;> (try rfl) <;> simp only [nc_up] <;> grind
theorem aM_add {mi : nc_Mem} {M L : Nat} {v w : Int32} (hL : L < 64) : aM (nc_up (nc_up mi M 1 w) (M + 1) L v) M = ((aM mi M).1, (w, fun i => if i = L then v else (aM mi M).2.1.2 i), (aM mi M).2.2) := by
  simp only [aM, vM, Prod.mk.injEq]
  refine ⟨⟨?_, ?_, ?_, ?_, ?_, ?_, ?_⟩, ⟨?_, ?_⟩, ⟨?_, ?_⟩, ?_⟩ <;> (try funext i) <;> (try funext j) <;> (try rfl) <;> simp only [nc_up] <;> grind
theorem aC_row {mi : nc_Mem} {X L : Nat} {v w : Int32} (hL : L < 6) : aC (nc_up (nc_up mi (X + 80) L v) X 8 w) X = ((aC mi X).1, (aC mi X).2.1, (w, fun i => if i = L then v else (aC mi X).2.2.1.2 i), (aC mi X).2.2.2) := by
  simp only [aC, Prod.mk.injEq]
  refine ⟨vC_fr (fun a k h1 h2 h3 => by rw [nc_up_na (by omega), nc_up_na (by omega)]), ⟨?_, ?_⟩, ⟨?_, ?_⟩, ?_⟩ <;> (try funext i) <;> (try rfl) <;> simp only [nc_up] <;> grind
theorem aM_row {mi : nc_Mem} {M L : Nat} {v w : Int32} (hL : L < 6) : aM (nc_up (nc_up mi M 3 w) (M + 2) L v) M = ((aM mi M).1, (aM mi M).2.1, (w, fun i => if i = L then v else (aM mi M).2.2.1.2 i), (aM mi M).2.2.2) := by
  simp only [aM, vM, Prod.mk.injEq]
  refine ⟨⟨?_, ?_, ?_, ?_, ?_, ?_, ?_⟩, ⟨?_, ?_⟩, ⟨?_, ?_⟩, ?_⟩ <;> (try funext i) <;> (try funext j) <;> (try rfl) <;> simp only [nc_up] <;> grind
theorem nc_neg_or (x : Int32) : x < 0 ∨ ∃ j : Nat, j < 2 ^ 31 ∧ x = nI j := by
  by_cases h : x < 0
  · exact Or.inl h
  · exact Or.inr (nI_of h)
theorem nc_le0 {x : Int32} (h : x < 0) : ¬ 0 ≤ x := Int32.not_le.mpr h
section EASY
variable {n : Nat} {A : nc_A} {LS : nc_Mem → Prop} {X M : Nat}
theorem sim_letter (wf : nc_WF n A) (a : Int32) : nc_SIM n A LS X M (fun mi => f_X7_letter mi X a) (fun mi => f_X8_letter mi M a) := by
  obtain ⟨ws, ⟨L, eL, hL, wl⟩, wr⟩ := id wf
  rcases nc_neg_or a with h0 | ⟨c, hc, rfl⟩
  · refine nc_SIM_ref wf 4 (by omega) (fun mi h hl => ?_) (fun mi h => ?_)
    · show f_X7_letter mi X a = _
      unfold f_X7_letter
      rw [if_neg (nc_le0 h0)]
      rfl
    · show f_X8_letter mi M a = _
      unfold f_X8_letter
      rw [if_neg (nc_le0 h0)]
      rfl
  · have h0 : 0 ≤ nI c := nI_pos' hc
    by_cases h1 : 255 < c
    · have h1' : 255 < nI c := nI_lt h1 (by omega)
      refine nc_SIM_ref wf 6 (by omega) (fun mi h hl => ?_) (fun mi h => ?_)
      · show f_X7_letter mi X _ = _
        unfold f_X7_letter
        simp only [nc_let_eq]
        rw [if_pos h0, if_pos h1']
        rfl
      · show f_X8_letter mi M _ = _
        unfold f_X8_letter
        simp only [nc_let_eq]
        rw [if_pos h0, if_pos h1']
        rfl
    · have h1' : ¬ 255 < nI c := nI_nlt (a := 255) (by omega) (by omega)
      by_cases h2 : L = 64
      · refine nc_SIM_ref wf 6 (by omega) (fun mi h hl => ?_) (fun mi h => ?_)
        · show f_X7_letter mi X _ = _
          have e : f_X1_add mi (X + 52) (nI c) = some (mi, 0) := by
            unfold f_X1_add
            rw [C_lc h, eL, h2]
            rfl
          unfold f_X7_letter
          simp only [nc_let_eq]
          rw [if_pos h0, if_neg h1', e]
          rfl
        · show f_X8_letter mi M _ = _
          unfold f_X8_letter
          simp only [nc_let_eq]
          rw [if_pos h0, if_neg h1', M_lc h, eL, h2, if_pos (show nI 64 = 64 from rfl)]
          rfl
      · refine ⟨nI (L + 1), (A.1, (nI (L + 1), fun i => if i = L then nI c else A.2.1.2 i), A.2.2), ?_, fun mi h hl => ⟨nc_up (nc_up mi (X + 52 + 1) L (nI c)) (X + 52) 2 (nI (L + 1)), ?_, ?_, ?_⟩, fun mi h => ⟨nc_up (nc_up mi M 1 (nI (L + 1))) (M + 1) L (nI c), ?_, ?_, ?_⟩, rfl⟩
        · refine ⟨(nc_WF_mono wf (Nat.le_succ n)).1, ⟨L + 1, rfl, by omega, fun i hi => ?_⟩, wr⟩
          by_cases e : i = L
          · exact ⟨c, by omega, if_pos e⟩
          · obtain ⟨d, hd, e'⟩ := wl i (by omega)
            exact ⟨d, hd, (if_neg e).trans e'⟩
        · have e : f_X1_add mi (X + 52) (nI c) = some (nc_up (nc_up mi (X + 52 + 1) L (nI c)) (X + 52) 2 (nI (L + 1)), 1) := by
            unfold f_X1_add
            simp only [nc_let_eq]
            rw [C_lc h, eL, if_pos (show nI L < 64 from nI_lt (b := 64) (by omega) (by omega)), nc_at_nI (by omega) (by omega), nc_up_na (by omega), C_lc h, eL, nI_1]
          show f_X7_letter mi X _ = _
          unfold f_X7_letter
          simp only [nc_let_eq]
          rw [if_pos h0, if_neg h1', e]
          simp only [nc_some_bind]
          rw [if_neg (by decide), nc_up_same]
        · rw [aC_add (by omega), h]
        · exact nc_frC_u (nc_frC_u nc_frC_r (by omega)) (by omega)
        · show f_X8_letter mi M _ = _
          unfold f_X8_letter
          simp only [nc_let_eq]
          rw [if_pos h0, if_neg h1', M_lc h, eL, if_neg (show ¬ nI L = 64 from fun z => h2 ((nI_eq (b := 64) (by omega) (by omega)).mp z)), nc_at_nI (by omega) (by omega), nI_1, nc_up_na (by omega), nc_up_same]
        · rw [aM_add (by omega), h]
        · exact nc_frM_u (nc_frM_u nc_frM_r (by omega)) (by omega)
theorem sim_row (wf : nc_WF n A) (a : Int32) : nc_SIM n A LS X M (fun mi => f_X7_row mi X a) (fun mi => f_X8_row mi M a) := by
  obtain ⟨ws, wl, ⟨L, eL, hL, wr⟩⟩ := id wf
  rcases nc_neg_or a with h0 | ⟨c, hc, rfl⟩
  · refine nc_SIM_ref wf 4 (by omega) (fun mi h hl => ?_) (fun mi h => ?_)
    · show f_X7_row mi X a = _
      unfold f_X7_row
      rw [if_neg (nc_le0 h0)]
      rfl
    · show f_X8_row mi M a = _
      unfold f_X8_row
      rw [if_neg (nc_le0 h0)]
      rfl
  · have h0 : 0 ≤ nI c := nI_pos' hc
    by_cases h1 : 9 < c
    · have h1' : 9 < nI c := nI_lt h1 (by omega)
      refine nc_SIM_ref wf 6 (by omega) (fun mi h hl => ?_) (fun mi h => ?_)
      · show f_X7_row mi X _ = _
        unfold f_X7_row
        simp only [nc_let_eq]
        rw [if_pos h0, if_pos h1']
        rfl
      · show f_X8_row mi M _ = _
        unfold f_X8_row
        simp only [nc_let_eq]
        rw [if_pos h0, if_pos h1']
        rfl
    · have h1' : ¬ 9 < nI c := nI_nlt (a := 9) (by omega) (by omega)
      by_cases h2 : L = 6
      · refine nc_SIM_ref wf 6 (by omega) (fun mi h hl => ?_) (fun mi h => ?_)
        · show f_X7_row mi X _ = _
          unfold f_X7_row
          simp only [nc_let_eq]
          rw [if_pos h0, if_neg h1', C_rc h, eL, h2, if_neg (show ¬ nI 6 < 6 by decide)]
          rfl
        · show f_X8_row mi M _ = _
          unfold f_X8_row
          simp only [nc_let_eq]
          rw [if_pos h0, if_neg h1', M_rc h, eL, h2, if_pos (show nI 6 = 6 from rfl)]
          rfl
      · refine ⟨nI (L + 1), (A.1, A.2.1, (nI (L + 1), fun i => if i = L then nI c else A.2.2.1.2 i), A.2.2.2), ?_, fun mi h hl => ⟨nc_up (nc_up mi (X + 80) L (nI c)) X 8 (nI (L + 1)), ?_, ?_, ?_⟩, fun mi h => ⟨nc_up (nc_up mi M 3 (nI (L + 1))) (M + 2) L (nI c), ?_, ?_, ?_⟩, rfl⟩
        · refine ⟨(nc_WF_mono wf (Nat.le_succ n)).1, wl, ⟨L + 1, rfl, by omega, fun i hi => ?_⟩⟩
          by_cases e : i = L
          · exact ⟨c, by omega, if_pos e⟩
          · obtain ⟨d, hd, e'⟩ := wr i (by omega)
            exact ⟨d, hd, (if_neg e).trans e'⟩
        · show f_X7_row mi X _ = _
          unfold f_X7_row
          simp only [nc_let_eq]
          rw [if_pos h0, if_neg h1', C_rc h, eL, if_pos (show nI L < 6 from nI_lt (b := 6) (by omega) (by omega)), nc_at_nI (by omega) (by omega), nc_up_na (by omega), C_rc h, eL, nI_1, nc_up_same]
        · rw [aC_row (by omega), h]
        · exact nc_frC_u (nc_frC_u nc_frC_r (by omega)) (by omega)
        · show f_X8_row mi M _ = _
          unfold f_X8_row
          simp only [nc_let_eq]
          rw [if_pos h0, if_neg h1', M_rc h, eL, if_neg (show ¬ nI L = 6 from fun z => h2 ((nI_eq (b := 6) (by omega) (by omega)).mp z)), nc_at_nI (by omega) (by omega), nI_1, nc_up_na (by omega), nc_up_same]
        · rw [aM_row (by omega), h]
        · exact nc_frM_u (nc_frM_u nc_frM_r (by omega)) (by omega)
theorem sim_law (wf : nc_WF n A) (a : Int32) : nc_SIM n A LS X M (fun mi => f_X7_law mi X a) (fun mi => f_X8_law mi M a) := by
  by_cases h0 : a < 0
  · refine nc_SIM_ref wf 2 (by omega) (fun mi h hl => ?_) (fun mi h => ?_)
    · show f_X7_law mi X a = _
      unfold f_X7_law
      simp only [nc_let_eq]
      rw [if_pos h0]
      rfl
    · show f_X8_law mi M a = _
      unfold f_X8_law f_X8_in
      rw [if_pos h0]
      rfl
  · by_cases h1 : a ≤ 4
    · have h2 : ¬ 4 < a := Int32.not_lt.mpr h1
      refine ⟨s_lw A.1, (s_setL A.1 a, A.2), ?_, fun mi h hl => ⟨nc_up mi (X + 1) 7 a, ?_, ?_, ?_⟩, fun mi h => ⟨nc_up mi M 11 a, ?_, ?_, ?_⟩, rfl⟩
      · obtain ⟨⟨pl, ps, th, w1, w2, w3, w4, w5, w6, w7, w8, w9⟩, wl⟩ := nc_WF_mono wf (Nat.le_succ n)
        obtain ⟨j, hj, e⟩ := nI_of2 (n := 4) (by decide) h0 h1
        exact ⟨⟨pl, ps, th, w1, w2, w3, w4, w5, w6, w7, ⟨j, by omega, e⟩, w9⟩, wl⟩
      · show f_X7_law mi X a = _
        unfold f_X7_law
        simp only [nc_let_eq]
        rw [if_neg h0, if_pos h1, C_lw h]
      · rw [aC_uL, h]
      · exact nc_frC_u nc_frC_r (by omega)
      · show f_X8_law mi M a = _
        unfold f_X8_law f_X8_in
        simp only [nc_let_eq]
        rw [if_neg h0, if_neg h2, if_neg (by decide), M_lw h]
      · rw [aM_uL, h]
      · exact nc_frM_u nc_frM_r (by omega)
    · have h2 : 4 < a := Int32.not_le.mp h1
      refine nc_SIM_ref wf 2 (by omega) (fun mi h hl => ?_) (fun mi h => ?_)
      · show f_X7_law mi X a = _
        unfold f_X7_law
        simp only [nc_let_eq]
        rw [if_neg h0, if_neg h1]
        rfl
      · show f_X8_law mi M a = _
        unfold f_X8_law f_X8_in
        rw [if_neg h0, if_pos h2]
        rfl
/-- what a person carries -/
def s_car (S : nc_S) (a : Int32) (j : Nat) (x : Int32) : Int32 := if s_T S j 7 = 10 + a then x ||| ((1 : Int32) <<< (nI j &&& 31)) else x
theorem C_carried {mi : nc_Mem} {th : Nat} (h : aC mi X = A) (e : s_th A.1 = nI th) (ht : th ≤ 6) (a : Int32) : f_X5_carriedBits mi (X + 1) a = some (nc_fo (s_car A.1 a) th 0 0) := by
  unfold f_X5_carriedBits
  refine nc_for2 _ some th (fun rc x j hj => ?_) (fun rc x => ?_) (by omega)
  · unfold B_X5_carriedBits_4 s_car
    simp only [nc_let_eq]
    rw [C_th h, e, if_neg (nI_ge hj (by omega)), nc_at_nI (by omega) (by omega), C_rT h (by omega) (by omega), nI_1]
    split <;> rfl
  · unfold B_X5_carriedBits_4
    rw [C_th h, e, if_pos (nI_le (Nat.le_refl _) (by omega))]
theorem M_carried {mi : nc_Mem} {th : Nat} (h : aM mi M = A) (e : s_th A.1 = nI th) (ht : th ≤ 6) (a : Int32) : f_X8_carriedBy mi M a = some (nc_fo (s_car A.1 a) th 0 0) := by
  unfold f_X8_carriedBy
  refine nc_for2 _ some th (fun rc x j hj => ?_) (fun rc x => ?_) (by omega)
  · unfold B_X8_carriedBy_4 s_car
    simp only [nc_let_eq]
    rw [M_th h, e, if_neg (nI_ge hj (by omega)), nc_at_nI (by omega) (by omega), M_rT h (by omega) (by omega), nI_1, show x ||| 0 = x from Int32.or_zero]
    split <;> rfl
  · unfold B_X8_carriedBy_4
    rw [M_th h, e, if_pos (nI_le (Nat.le_refl _) (by omega))]
theorem C_tellP {mi : nc_Mem} {o k : Nat} (hk : k < 7) : f_X3_tellOf mi o (nI k) = mi o k := by
  rcases (show k = 0 ∨ k = 1 ∨ k = 2 ∨ k = 3 ∨ k = 4 ∨ k = 5 ∨ k = 6 by omega) with rfl | rfl | rfl | rfl | rfl | rfl | rfl <;> rfl
theorem C_tellT {mi : nc_Mem} {o k : Nat} (hk : k < 10) : f_X4_tellOf mi o (nI k) = mi o k := by
  rcases (show k = 0 ∨ k = 1 ∨ k = 2 ∨ k = 3 ∨ k = 4 ∨ k = 5 ∨ k = 6 ∨ k = 7 ∨ k = 8 ∨ k = 9 by omega) with rfl | rfl | rfl | rfl | rfl | rfl | rfl | rfl | rfl | rfl <;> rfl
theorem sim_person (wf : nc_WF n A) (a b : Int32) : nc_SIM n A LS X M (fun mi => f_X7_person mi X a b) (fun mi => f_X8_person mi M a b) := by
  obtain ⟨⟨pl, ps, th, w1, w2, w3, w4, w5, w6, w7, w8, w9⟩, wl, wr⟩ := id wf
  rcases nc_among a (n := ps) (by omega) with ⟨p, hp, rfl⟩ | ha
  · by_cases h0 : b < 0
    · refine nc_SIM_ref wf 2 (by omega) (fun mi h hl => ?_) (fun mi h => ?_)
      · show f_X7_person mi X _ b = _
        unfold f_X7_person
        simp only [nc_let_eq]
        rw [C_isP ((C_ps h).trans w4) w5 hp, if_neg (by decide), if_pos h0]
        rfl
      · show f_X8_person mi M _ b = _
        unfold f_X8_person f_X8_in
        rw [M_isP ((M_ps h).trans w4) w5 hp]
        simp only [nc_some_bind]
        rw [if_neg (by decide), if_pos h0]
        rfl
    · obtain ⟨k, hk, rfl⟩ := nI_of h0
      by_cases h1 : k ≤ 7
      · by_cases h2 : k = 7
        · subst h2
          refine nc_SIM_id wf (nc_fo (s_car A.1 (nI p)) th 0 0) (fun mi h hl => ?_) (fun mi h => ?_)
          · show f_X7_person mi X _ _ = _
            unfold f_X7_person
            simp only [nc_let_eq]
            rw [C_isP ((C_ps h).trans w4) w5 hp, if_neg (by decide), if_neg h0, if_pos (by decide), if_pos (by decide), C_carried h w6 w7]
            rfl
          · show f_X8_person mi M _ _ = _
            unfold f_X8_person f_X8_in
            rw [M_isP ((M_ps h).trans w4) w5 hp]
            simp only [nc_some_bind]
            rw [if_neg (by decide), if_neg h0, if_neg (by decide), if_pos (by decide), M_carried h w6 w7]
            rfl
        · refine nc_SIM_id wf (s_P A.1 p k) (fun mi h hl => ?_) (fun mi h => ?_)
          · show f_X7_person mi X _ _ = _
            unfold f_X7_person
            simp only [nc_let_eq]
            rw [C_isP ((C_ps h).trans w4) w5 hp, if_neg (by decide), if_neg h0, if_pos (show nI k ≤ 7 from nI_le (b := 7) h1 (by omega)), if_neg (show ¬ nI k = 7 from fun z => h2 ((nI_eq (b := 7) (by omega) (by omega)).mp z)), nc_at_nI (by omega) (by omega), C_tellP (by omega), C_rP h (by omega) (by omega)]
          · show f_X8_person mi M _ _ = _
            unfold f_X8_person f_X8_in
            rw [M_isP ((M_ps h).trans w4) w5 hp]
            simp only [nc_some_bind]
            rw [if_neg (by decide), if_neg h0, if_neg (show ¬ 7 < nI k from nI_nlt (a := 7) (by omega) (by omega)), if_neg (by decide), if_neg (show ¬ 7 ≤ nI k from nI_ge (b := 7) (by omega) (by omega)), nc_at_nI (by omega) (by omega), nc_at_nI (by omega) (by omega), M_rP h (by omega) (by omega)]
      · refine nc_SIM_ref wf 2 (by omega) (fun mi h hl => ?_) (fun mi h => ?_)
        · show f_X7_person mi X _ _ = _
          unfold f_X7_person
          simp only [nc_let_eq]
          rw [C_isP ((C_ps h).trans w4) w5 hp, if_neg (by decide), if_neg h0, if_neg (show ¬ nI k ≤ 7 from nI_ge (a := 7) (by omega) (by omega))]
          rfl
        · show f_X8_person mi M _ _ = _
          unfold f_X8_person f_X8_in
          rw [M_isP ((M_ps h).trans w4) w5 hp]
          simp only [nc_some_bind]
          rw [if_neg (by decide), if_neg h0, if_pos (show 7 < nI k from nI_lt (a := 7) (by omega) (by omega))]
          rfl
  · refine nc_SIM_ref wf 1 (by omega) (fun mi h hl => ?_) (fun mi h => ?_)
    · show f_X7_person mi X a b = _
      unfold f_X7_person
      rw [C_isPn ((C_ps h).trans w4) ha]
      rfl
    · show f_X8_person mi M a b = _
      unfold f_X8_person
      rw [M_isPn ((M_ps h).trans w4) w5 ha]
      rfl
theorem sim_thing (wf : nc_WF n A) (a b : Int32) : nc_SIM n A LS X M (fun mi => f_X7_thing mi X a b) (fun mi => f_X8_thing mi M a b) := by
  obtain ⟨⟨pl, ps, th, w1, w2, w3, w4, w5, w6, w7, w8, w9⟩, wl, wr⟩ := id wf
  rcases nc_among a (n := th) (by omega) with ⟨p, hp, rfl⟩ | ha
  · by_cases h0 : b < 0
    · refine nc_SIM_ref wf 2 (by omega) (fun mi h hl => ?_) (fun mi h => ?_)
      · show f_X7_thing mi X _ b = _
        unfold f_X7_thing
        simp only [nc_let_eq]
        rw [C_isT ((C_th h).trans w6) w7 hp, if_neg (by decide), if_pos h0]
        rfl
      · show f_X8_thing mi M _ b = _
        unfold f_X8_thing f_X8_in
        rw [M_isT ((M_th h).trans w6) w7 hp]
        simp only [nc_some_bind]
        rw [if_neg (by decide), if_pos h0]
        rfl
    · obtain ⟨k, hk, rfl⟩ := nI_of h0
      by_cases h1 : k ≤ 9
      · refine nc_SIM_id wf (s_T A.1 p k) (fun mi h hl => ?_) (fun mi h => ?_)
        · show f_X7_thing mi X _ _ = _
          unfold f_X7_thing
          simp only [nc_let_eq]
          rw [C_isT ((C_th h).trans w6) w7 hp, if_neg (by decide), if_neg h0, if_pos (show nI k ≤ 9 from nI_le (b := 9) h1 (by omega)), nc_at_nI (by omega) (by omega), C_tellT (by omega), C_rT h (by omega) (by omega)]
        · show f_X8_thing mi M _ _ = _
          unfold f_X8_thing f_X8_in
          rw [M_isT ((M_th h).trans w6) w7 hp]
          simp only [nc_some_bind]
          rw [if_neg (by decide), if_neg h0, if_neg (show ¬ 9 < nI k from nI_nlt (a := 9) (by omega) (by omega)), if_neg (by decide), nc_at_nI (by omega) (by omega), nc_at_nI (by omega) (by omega), M_rT h (by omega) (by omega)]
      · refine nc_SIM_ref wf 2 (by omega) (fun mi h hl => ?_) (fun mi h => ?_)
        · show f_X7_thing mi X _ _ = _
          unfold f_X7_thing
          simp only [nc_let_eq]
          rw [C_isT ((C_th h).trans w6) w7 hp, if_neg (by decide), if_neg h0, if_neg (show ¬ nI k ≤ 9 from nI_ge (a := 9) (by omega) (by omega))]
          rfl
        · show f_X8_thing mi M _ _ = _
          unfold f_X8_thing f_X8_in
          rw [M_isT ((M_th h).trans w6) w7 hp]
          simp only [nc_some_bind]
          rw [if_neg (by decide), if_neg h0, if_pos (show 9 < nI k from nI_lt (a := 9) (by omega) (by omega))]
          rfl
  · refine nc_SIM_ref wf 1 (by omega) (fun mi h hl => ?_) (fun mi h => ?_)
    · show f_X7_thing mi X a b = _
      unfold f_X7_thing
      rw [C_isTn ((C_th h).trans w6) ha]
      rfl
    · show f_X8_thing mi M a b = _
      unfold f_X8_thing
      rw [M_isTn ((M_th h).trans w6) w7 ha]
      rfl
end EASY
