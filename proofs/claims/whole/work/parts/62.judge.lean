-- judging
theorem aC_u8 {mi : nc_Mem} {X : Nat} {v : Int32} : aC (nc_up mi X 8 v) X = ((aC mi X).1, (aC mi X).2.1, (v, (aC mi X).2.2.1.2), (aC mi X).2.2.2) := by
  simp only [aC, Prod.mk.injEq]
  refine ⟨vC_fr (fun a k h1 h2 h3 => nc_up_na (by omega)), ⟨?_, ?_⟩, ⟨?_, ?_⟩, ?_⟩ <;> (try funext i) <;> (try rfl) <;> simp only [nc_up] <;> grind
theorem aM_u3 {mi : nc_Mem} {M : Nat} {v : Int32} : aM (nc_up mi M 3 v) M = ((aM mi M).1, (aM mi M).2.1, (v, (aM mi M).2.2.1.2), (aM mi M).2.2.2) := by
  simp only [aM, vM, Prod.mk.injEq]
  refine ⟨⟨?_, ?_, ?_, ?_, ?_, ?_, ?_⟩, ⟨?_, ?_⟩, ⟨?_, ?_⟩, ?_⟩ <;> (try funext i) <;> (try funext j) <;> (try rfl) <;> simp only [nc_up] <;> grind
def s_jdg (A : nc_A) (v : Int32) : Nat → Nat → Int32 → Int32
  | 0, _, _ => v
  | r + 1, j, x => if A.2.2.1.2 j = 9 then s_jdg A v r (j + 1) x
    else if A.2.2.1.2 j < 0 ∨ s_ps A.1 ≤ A.2.2.1.2 j then nI j
    else if (x >>> (A.2.2.1.2 j &&& 31)) &&& 1 = 0 then (if s_rnd A.1 (s_cl (A.2.2.1.2 j)) j = -9 then nI j else s_jdg A v r (j + 1) (x ||| ((1 : Int32) <<< (A.2.2.1.2 j &&& 31))))
    else nI j
section JDG
variable {n : Nat} {A : nc_A} {X M : Nat}
theorem sim_judge (wf : nc_WF n A) : nc_SIM n A (nc_lst A.1 (X + 1)) X M (fun mi => f_X7_judge mi X) (fun mi => f_X8_judge mi M) := by
  obtain ⟨⟨pl, ps, th, ws⟩, wl, ⟨R, eR, hR, wr⟩⟩ := id wf
  obtain ⟨w1, w2, w3, w4, w5, w6, w7, w8, w9, w10, w11⟩ := id ws
  have e9 : ∀ {d : Nat}, d < 10 → (nI d = 9) = (d = 9) := fun hd => nI_eq' (b := 9) (by omega) (by omega)
  let v : Int32 := if R = th then -9 else nI (min R th)
  have key : ∀ {Rs : Type} (ret : Int32 → Option Rs) (B : (Int32 → Int32 → Option Rs) → Int32 → Int32 → Option Rs) (z : Int32 → Int32 → Option Rs), (∀ rc x j d, j < min R th → A.2.2.1.2 j = nI d → d < 10 → B rc x (nI j) = if A.2.2.1.2 j = 9 then rc x (nI (j + 1)) else if A.2.2.1.2 j < 0 ∨ s_ps A.1 ≤ A.2.2.1.2 j then ret (nI j) else if (x >>> (A.2.2.1.2 j &&& 31)) &&& 1 = 0 then (if s_rnd A.1 (s_cl (A.2.2.1.2 j)) j = -9 then ret (nI j) else rc (x ||| ((1 : Int32) <<< (A.2.2.1.2 j &&& 31))) (nI (j + 1))) else ret (nI j)) → (∀ rc x, B rc x (nI (min R th)) = ret v) → nc_loop z B 200 0 0 = ret (s_jdg A v (min R th) 0 0) := by
    intro Rs ret B z hs he
    have := nc_loop_ind (z := z) (B := B) (fun r κ => ∀ j x, j + r = min R th → κ x (nI j) = ret (s_jdg A v r j x)) (fun r k ih j x hj => by
      cases r with
      | zero =>
        have : j = min R th := by omega
        subst this
        exact he k x
      | succ r =>
        obtain ⟨d, hd, ed⟩ := wr j (by omega)
        rw [hs k x j d (by omega) ed hd]
        show _ = ret (if _ then _ else _)
        by_cases c1 : A.2.2.1.2 j = 9
        · rw [if_pos c1, if_pos c1]
          exact ih r (by omega) (j + 1) x (by omega)
        · rw [if_neg c1, if_neg c1]
          by_cases c2 : A.2.2.1.2 j < 0 ∨ s_ps A.1 ≤ A.2.2.1.2 j
          · rw [if_pos c2, if_pos c2]
          · rw [if_neg c2, if_neg c2]
            by_cases c3 : (x >>> (A.2.2.1.2 j &&& 31)) &&& 1 = 0
            · rw [if_pos c3, if_pos c3]
              by_cases c4 : s_rnd A.1 (s_cl (A.2.2.1.2 j)) j = -9
              · rw [if_pos c4, if_pos c4]
              · rw [if_neg c4, if_neg c4]
                exact ih r (by omega) (j + 1) _ (by omega)
            · rw [if_neg c3, if_neg c3]) 200 (min R th) (by omega) 0 0 (by omega)
    exact this
  refine ⟨s_jdg A v (min R th) 0 0, (A.1, A.2.1, (0, A.2.2.1.2), A.2.2.2), ⟨(nc_WF_mono wf (Nat.le_succ n)).1, wl, 0, rfl, by omega, fun i hi => absurd hi (Nat.not_lt_zero _)⟩, fun mi h hl => ⟨nc_up mi X 8 0, ?_, ?_, ?_⟩, fun mi h => ?_, rfl⟩
  · have e : f_X7_firstBadInLine mi X = some (s_jdg A v (min R th) 0 0) := by
      unfold f_X7_firstBadInLine
      simp only [nc_let_eq]
      refine key some _ _ (fun rc x j d hj ed hd => ?_) (fun rc x => ?_)
      · unfold B_X7_firstBadInLine_4
        simp only [nc_let_eq]
        rw [C_th h, w6, if_neg (nI_ge (by omega) (by omega)), C_rc h, eR, if_neg (nI_ge (by omega) (by omega)), nc_at_nI (by omega) (by omega), C_ro h (by omega), nI_1]
        by_cases c1 : A.2.2.1.2 j = 9
        · rw [if_pos c1, if_pos c1]
        · rw [if_neg c1, if_neg c1, ed, w4]
          by_cases c2 : nI d < 0 ∨ nI ps ≤ nI d
          · rw [C_isPn ((C_ps h).trans w4) c2, if_pos rfl, if_pos c2]
          · have hd' : d < ps := by
              rcases Nat.lt_or_ge d ps with z | z
              · exact z
              · exact absurd (Or.inr (nI_le z (by omega))) c2
            rw [C_isP ((C_ps h).trans w4) w5 hd', if_neg (by decide), if_neg c2, C_round h hl ws hd' (by omega), s_cl_nI (by omega)]
            simp only [nc_some_bind]
      · unfold B_X7_firstBadInLine_4
        simp only [nc_let_eq]
        rw [C_th h, w6, C_rc h, eR]
        show _ = some (if R = th then -9 else nI (min R th))
        by_cases c : R = th
        · subst c
          rw [Nat.min_self, if_pos (nI_le (Nat.le_refl _) (by omega)), if_pos rfl, if_pos rfl]
        · rw [if_neg c, if_neg (fun z => c ((nI_eq (by omega) (by omega)).mp z))]
          by_cases c' : th < R
          · rw [Nat.min_eq_right (by omega), if_pos (nI_le (Nat.le_refl _) (by omega)), if_pos (nI_lt c' (by omega))]
          · rw [Nat.min_eq_left (by omega), if_neg (nI_ge (by omega) (by omega)), if_pos (nI_le (Nat.le_refl _) (by omega)), if_neg (nI_nlt (by omega) (by omega))]
    show f_X7_judge mi X = _
    unfold f_X7_judge
    rw [e]
    rfl
  · rw [aC_u8, h]
  · exact nc_frC_u nc_frC_r (by omega)
  · obtain ⟨m1, e1, hf, hF⟩ := M_findFar (M_v h) (s_wf_ww ws) w1 w3
    have h' := aM_far h hF
    refine ⟨nc_up m1 M 3 0, ?_, ?_, nc_frM_u (frM_far hF) (by omega)⟩
    · have e : f_X8_judged mi M = some (m1, s_jdg A v (min R th) 0 0) := by
        unfold f_X8_judged
        rw [e1]
        simp only [nc_let_eq, nc_some_bind]
        refine key (fun r => some (m1, r)) _ _ (fun rc x j d hj ed hd => ?_) (fun rc x => ?_)
        · unfold B_X8_judged_8
          simp only [nc_let_eq]
          rw [M_th h', w6, if_neg (nI_ge (by omega) (by omega)), M_rc h', eR, if_neg (fun z => by rw [nI_eq (by omega) (by omega)] at z; omega), nc_at_nI (by omega) (by omega), M_ro h' (by omega), nI_1]
          by_cases c1 : A.2.2.1.2 j = 9
          · rw [if_pos c1, if_pos c1]
          · rw [if_neg c1, if_neg c1, ed, w4]
            by_cases c2 : nI d < 0 ∨ nI ps ≤ nI d
            · rw [M_isPn ((M_ps h').trans w4) w5 c2, if_pos c2]
              rfl
            · have hd' : d < ps := by
                rcases Nat.lt_or_ge d ps with z | z
                · exact z
                · exact absurd (Or.inr (nI_le z (by omega))) c2
              rw [M_isP ((M_ps h').trans w4) w5 hd', if_neg c2, M_round h' hf ws hd' (by omega), s_cl_nI (by omega)]
              simp only [nc_some_bind]
              rw [if_neg (by decide)]
        · unfold B_X8_judged_8
          simp only [nc_let_eq]
          rw [M_th h', w6, M_rc h', eR]
          show _ = some (m1, if R = th then -9 else nI (min R th))
          by_cases c : R = th
          · subst c
            rw [Nat.min_self, if_pos (nI_le (Nat.le_refl _) (by omega)), if_pos rfl, if_pos (nI_le (Nat.le_refl _) (by omega))]
          · rw [if_neg c]
            by_cases c' : th < R
            · rw [Nat.min_eq_right (by omega), if_pos (nI_le (Nat.le_refl _) (by omega)), if_neg (nI_ge c' (by omega))]
            · rw [Nat.min_eq_left (by omega), if_neg (nI_ge (by omega) (by omega)), if_pos rfl]
      show f_X8_judge mi M = _
      unfold f_X8_judge
      rw [e]
      rfl
    · rw [aM_u3, h']
end JDG
