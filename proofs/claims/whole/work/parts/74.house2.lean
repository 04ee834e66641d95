def s_hg (S : nc_S) (pl ps th a b : Nat) (σ : Int32 × Int32) : Int32 × Int32 := if σ.1 ≤ s_sum S pl ps th (s_lw S) (s_wab S a b) then σ else (s_sum S pl ps th (s_lw S) (s_wab S a b), 10 * nI a + nI b)
def s_ha (S : nc_S) (pl ps th a : Nat) (σ : Int32 × Int32) : Int32 × Int32 := nc_fo (s_hg S pl ps th a) (ps - (a + 1)) (a + 1) σ
section HOUSE
variable {n : Nat} {A : nc_A} {X M : Nat}
theorem s_swap_sum {S : nc_S} {pl ps th a b : Nat} (hab : ¬ a = b) : s_sum (s_swap S a b) pl ps th (s_lw S) (s_w0 (s_swap S a b)) = s_sum S pl ps th (s_lw S) (s_wab S a b) := by
  refine s_sum_cg (S' := s_swap S a b) rfl rfl (fun r k hk => ?_) (fun p _ => ?_)
  · show (if k < 2 ∧ r = a then _ else if k < 2 ∧ r = b then _ else s_P S r k) = _
    rw [if_neg (by omega), if_neg (by omega)]
  · have e : ∀ k, s_P (s_swap S a b) p k = if k < 2 ∧ p = a then s_P S b k else if k < 2 ∧ p = b then s_P S a k else s_P S p k := fun _ => rfl
    unfold s_wab s_wch s_w0
    rw [e, e, e]
    by_cases c : p = b
    · have c' : ¬ p = a := fun z => hab (z.symm.trans c)
      have c2 : ¬ b = a := fun z => hab z.symm
      simp [c, c2]
    · by_cases c' : p = a
      · simp [c', hab]
      · simp [c, c']
theorem sim_houses (wf : nc_WF n A) : nc_SIM n A (nc_lst A.1 (X + 1)) X M (fun mi => f_X7_houses mi X) (fun mi => f_X8_houses mi M) := by
  obtain ⟨⟨pl, ps, th, ws⟩, wl, wr⟩ := id wf
  obtain ⟨w1, w2, w3, w4, w5, w6, w7, w8, w9, w10, w11⟩ := id ws
  refine ⟨(nc_fo (s_ha A.1 pl ps th) ps 0 (s_sum A.1 pl ps th (s_lw A.1) (s_w0 A.1), -9)).2, A, nc_WF_mono wf (by omega), fun mi h hl => ?_, fun mi h => ?_, rfl⟩
  · obtain ⟨m1, e1, cx, hl1, F1⟩ := C_recall (C_v h) hl ws
    obtain ⟨m2, e2, c2, F2⟩ := C_sum cx ws (s_w0_ok ws)
    have hl2 : nc_lst A.1 (X + 1) m2 := fun a c ha hc => (F2 _ _ (by omega)).trans (hl1 a c ha hc)
    -- the inner loop
    have inner : ∀ (a : Nat) (y u : Int32) (m : nc_Mem) (rc6 : Int32 → Int32 → Int32 → nc_Mem → Option (nc_Mem × Int32)), a < ps → (nc_CX A.1 pl ps (s_lw A.1) (-9) (s_w0 A.1) X m ∧ nc_lst A.1 (X + 1) m ∧ ∀ a k, ¬ (X + 55 ≤ a ∧ a < X + 80) → m a k = mi a k) → ∃ y' u' m', (((y', u') = s_ha A.1 pl ps th a (y, u)) ∧ (nc_CX A.1 pl ps (s_lw A.1) (-9) (s_w0 A.1) X m' ∧ nc_lst A.1 (X + 1) m' ∧ ∀ a k, ¬ (X + 55 ≤ a ∧ a < X + 80) → m' a k = mi a k)) ∧ nc_loop (fun _ _ _ _ => none) (B_X2_bestChange_26 X (nI a) rc6) 200 y u (nI (a + 1)) m = rc6 y' u' (nI (a + 1)) m' := by
      intro a y u m rc6 ha hI
      exact nc_forI2 (z := fun _ _ _ _ => none) (B := B_X2_bestChange_26 X (nI a) rc6) (s := a + 1) (n := 200) (y := y) (u := u) (x := m) (fun b y' u' m' => ((y', u') = nc_fo (s_hg A.1 pl ps th a) (b - (a + 1)) (a + 1) (y, u)) ∧ (nc_CX A.1 pl ps (s_lw A.1) (-9) (s_w0 A.1) X m' ∧ nc_lst A.1 (X + 1) m' ∧ ∀ a k, ¬ (X + 55 ≤ a ∧ a < X + 80) → m' a k = mi a k)) ps (fun y' u' m' => rc6 y' u' (nI (a + 1)) m') (fun rc b y' u' m' hab hb ⟨i1, i2, i3, i4⟩ => by
          obtain ⟨n1, f1, d1, l1, G1⟩ := C_relead (p := a) (h := b) i2 i3 ws ha hb
          obtain ⟨n2, f2, d2, l2, G2⟩ := C_relead (p := b) (h := a) d1 l1 ws hb ha
          obtain ⟨n3, f3, d3, G3⟩ := C_sum d2 ws (s_wab_ok ws ha hb)
          have l3 : nc_lst A.1 (X + 1) n3 := fun a c ha hc => (G3 _ _ (by omega)).trans (l2 a c ha hc)
          obtain ⟨n4, f4, d4, l4, G4⟩ := C_relead (p := a) (h := a) d3 l3 ws ha ha
          obtain ⟨n5, f5, d5, l5, G5⟩ := C_relead (p := b) (h := b) d4 l4 ws hb hb
          have d6 : nc_CX A.1 pl ps (s_lw A.1) (-9) (s_w0 A.1) X n5 := by
            have := s_wab_back (S := A.1) (a := a) (b := b) (by omega)
            rw [← this]
            exact d5
          have F6 : ∀ a k, ¬ (X + 55 ≤ a ∧ a < X + 80) → n5 a k = mi a k := fun a k hk => by
            rw [G5 a k (by omega), G4 a k (by omega), G3 a k (by omega), G2 a k (by omega), G1 a k (by omega), i4 a k hk]
          have es : b + 1 - (a + 1) = (b - (a + 1)) + 1 := by omega
          have eb : a + 1 + (b - (a + 1)) = b := by omega
          have body : B_X2_bestChange_26 X (nI a) rc6 rc y' u' (nI b) m' = if y' ≤ s_sum A.1 pl ps th (s_lw A.1) (s_wab A.1 a b) then rc y' u' (nI (b + 1)) n5 else rc (s_sum A.1 pl ps th (s_lw A.1) (s_wab A.1 a b)) (10 * nI a + nI b) (nI (b + 1)) n5 := by
            unfold B_X2_bestChange_26
            simp only [nc_let_eq]
            rw [show m' (X + 1) 5 = nI ps from (congrArg s_ps i2.1).trans w4, if_neg (nI_ge hb (by omega)), f1]
            simp only [nc_some_bind]
            rw [f2]
            simp only [nc_some_bind]
            rw [f3]
            simp only [nc_some_bind]
            rw [f4]
            simp only [nc_some_bind]
            rw [f5]
            simp only [nc_some_bind]
            rw [nI_1]
            rfl
          have st : nc_fo (s_hg A.1 pl ps th a) (b + 1 - (a + 1)) (a + 1) (y, u) = s_hg A.1 pl ps th a b (y', u') := by
            rw [es, nc_fo_succ, eb, ← i1]
          rw [st, body]
          by_cases c : y' ≤ s_sum A.1 pl ps th (s_lw A.1) (s_wab A.1 a b)
          · refine ⟨y', u', n5, ⟨?_, d6, l5, F6⟩, if_pos c⟩
            unfold s_hg
            rw [if_pos c]
          · refine ⟨_, _, n5, ⟨?_, d6, l5, F6⟩, if_neg c⟩
            unfold s_hg
            rw [if_neg c]) (fun rc y' u' m' ⟨i1, i2, i3, i4⟩ => by
          unfold B_X2_bestChange_26
          simp only [nc_let_eq]
          rw [show m' (X + 1) 5 = nI ps from (congrArg s_ps i2.1).trans w4, if_pos (nI_le (Nat.le_refl _) (by omega)), nI_1]) (by omega) (by omega) ⟨by rw [Nat.sub_self]; rfl, hI⟩
    obtain ⟨y, u, m3, ⟨i1, i2, i3, i4⟩, e3⟩ := nc_forI2 (z := fun _ _ _ _ => none) (B := B_X2_bestChange_10 X) (s := 0) (n := 200) (y := s_sum A.1 pl ps th (s_lw A.1) (s_w0 A.1)) (u := (-9 : Int32)) (x := m2) (fun a y u m => (y, u) = nc_fo (s_ha A.1 pl ps th) a 0 (s_sum A.1 pl ps th (s_lw A.1) (s_w0 A.1), -9) ∧ (nc_CX A.1 pl ps (s_lw A.1) (-9) (s_w0 A.1) X m ∧ nc_lst A.1 (X + 1) m ∧ ∀ a k, ¬ (X + 55 ≤ a ∧ a < X + 80) → m a k = mi a k)) ps (fun y u m => some (m, u)) (fun rc a y u m _ ha ⟨i1, iI⟩ => by
        obtain ⟨y', u', m', ⟨j1, j2⟩, e⟩ := inner a y u m rc ha iI
        refine ⟨y', u', m', ⟨by rw [nc_fo_succ, Nat.zero_add, ← i1]; exact j1, j2⟩, ?_⟩
        unfold B_X2_bestChange_10
        simp only [nc_let_eq]
        rw [show m (X + 1) 5 = nI ps from (congrArg s_ps iI.1.1).trans w4, if_neg (nI_ge ha (by omega)), nI_1]
        exact e) (fun rc y u m ⟨i1, iI⟩ => by
        unfold B_X2_bestChange_10
        rw [show m (X + 1) 5 = nI ps from (congrArg s_ps iI.1.1).trans w4, if_pos (nI_le (Nat.le_refl _) (by omega))]) (Nat.zero_le _) (by omega) ⟨rfl, c2, hl2, fun a k hk => by rw [F2 a k (by omega), F1 a k (by omega)]⟩
    refine ⟨m3, ?_, ?_, fun a k hc => i4 a k (by omega)⟩
    · show f_X7_houses mi X = _
      unfold f_X7_houses f_X2_bestChange
      rw [e1]
      simp only [nc_some_bind]
      rw [e2]
      simp only [nc_some_bind]
      rw [← i1]
      rw [show nc_loop (fun _ _ _ _ => none) (B_X2_bestChange_10 X) 200 (s_sum A.1 pl ps th (s_lw A.1) (s_w0 A.1)) (-9) 0 m2 = some (m3, u) from e3]
      rfl
    · rw [← h]
      exact aC_fr (fun a k a1 a2 a3 a4 a5 => i4 a k (by omega))
  · obtain ⟨m1, e1, F1⟩ := M_sum (rule := s_lw A.1) h ws w8
    have h1 : aM m1 M = A := by
      rw [← h]
      exact aM_fr (fun a k a1 a2 => F1 a k (by omega))
    have inner : ∀ (a : Nat) (y u : Int32) (m : nc_Mem) (rc6 : Int32 → Int32 → Int32 → nc_Mem → Option (nc_Mem × Int32)), a < ps → (aM m M = A ∧ nc_frM M mi m) → ∃ y' u' m', (((y', u') = s_ha A.1 pl ps th a (y, u)) ∧ (aM m' M = A ∧ nc_frM M mi m')) ∧ nc_loop (fun _ _ _ _ => none) (B_X8_houses_27 M (nI a) rc6) 200 y u (nI (a + 1)) m = rc6 y' u' (nI (a + 1)) m' := by
      intro a y u m rc6 ha hI
      exact nc_forI2 (z := fun _ _ _ _ => none) (B := B_X8_houses_27 M (nI a) rc6) (s := a + 1) (n := 200) (y := y) (u := u) (x := m) (fun b y' u' m' => ((y', u') = nc_fo (s_hg A.1 pl ps th a) (b - (a + 1)) (a + 1) (y, u)) ∧ (aM m' M = A ∧ nc_frM M mi m')) ps (fun y' u' m' => rc6 y' u' (nI (a + 1)) m') (fun rc b y' u' m' hab hb ⟨i1, i2, i3⟩ => by
          have hne : ¬ a = b := by omega
          obtain ⟨n1, f1, d1, G1⟩ := M_change (p := a) (q := b) i2 (by omega) (by omega) hne
          obtain ⟨n2, f2, G2⟩ := M_sum (rule := s_lw A.1) d1 (s_swap_wf ws ha hb) w8
          have d2 : aM n2 M = (s_swap A.1 a b, A.2) := by
            rw [← d1]
            exact aM_fr (fun a k a1 a2 => G2 a k (by omega))
          obtain ⟨n3, f3, d3, G3⟩ := M_change (p := a) (q := b) d2 (by omega) (by omega) hne
          have d4 : aM n3 M = A := by
            rw [d3]
            show (s_swap (s_swap A.1 a b) a b, A.2) = A
            rw [s_swap2 hne]
          have F4 : nc_frM M mi n3 := nc_frM_t (nc_frM_t (nc_frM_t i3 G1) (fun a k hk => G2 a k (by omega))) G3
          have es : b + 1 - (a + 1) = (b - (a + 1)) + 1 := by omega
          have eb : a + 1 + (b - (a + 1)) = b := by omega
          have f2' : f_X8_sumBy n1 M (s_lw A.1) = some (n2, s_sum A.1 pl ps th (s_lw A.1) (s_wab A.1 a b)) := by
            rw [f2]
            exact congrArg (fun z => some (n2, z)) (s_swap_sum hne)
          have body : B_X8_houses_27 M (nI a) rc6 rc y' u' (nI b) m' = if y' ≤ s_sum A.1 pl ps th (s_lw A.1) (s_wab A.1 a b) then rc y' u' (nI (b + 1)) n3 else rc (s_sum A.1 pl ps th (s_lw A.1) (s_wab A.1 a b)) (10 * nI a + nI b) (nI (b + 1)) n3 := by
            unfold B_X8_houses_27
            simp only [nc_let_eq]
            rw [show m' M 7 = nI ps from (M_ps i2).trans w4, if_neg (nI_ge hb (by omega)), f1]
            simp only [nc_some_bind]
            rw [show n1 M 11 = s_lw A.1 from (M_lw d1 : n1 M 11 = s_lw (s_swap A.1 a b, A.2).1), f2']
            simp only [nc_some_bind]
            rw [f3]
            simp only [nc_some_bind]
            rw [nI_1]
          have st : nc_fo (s_hg A.1 pl ps th a) (b + 1 - (a + 1)) (a + 1) (y, u) = s_hg A.1 pl ps th a b (y', u') := by
            rw [es, nc_fo_succ, eb, ← i1]
          rw [st, body]
          by_cases c : y' ≤ s_sum A.1 pl ps th (s_lw A.1) (s_wab A.1 a b)
          · refine ⟨y', u', n3, ⟨?_, d4, F4⟩, if_pos c⟩
            unfold s_hg
            rw [if_pos c]
          · refine ⟨_, _, n3, ⟨?_, d4, F4⟩, if_neg c⟩
            unfold s_hg
            rw [if_neg c]) (fun rc y' u' m' ⟨i1, i2, i3⟩ => by
          unfold B_X8_houses_27
          simp only [nc_let_eq]
          rw [show m' M 7 = nI ps from (M_ps i2).trans w4, if_pos (nI_le (Nat.le_refl _) (by omega)), nI_1]) (by omega) (by omega) ⟨by rw [Nat.sub_self]; rfl, hI⟩
    obtain ⟨y, u, m3, ⟨i1, i2, i3⟩, e3⟩ := nc_forI2 (z := fun _ _ _ _ => none) (B := B_X8_houses_14 M) (s := 0) (n := 200) (y := s_sum A.1 pl ps th (s_lw A.1) (s_w0 A.1)) (u := (-9 : Int32)) (x := m1) (fun a y u m => (y, u) = nc_fo (s_ha A.1 pl ps th) a 0 (s_sum A.1 pl ps th (s_lw A.1) (s_w0 A.1), -9) ∧ (aM m M = A ∧ nc_frM M mi m)) ps (fun y u m => some (m, u)) (fun rc a y u m _ ha ⟨i1, iI⟩ => by
        obtain ⟨y', u', m', ⟨j1, j2⟩, e⟩ := inner a y u m rc ha iI
        refine ⟨y', u', m', ⟨by rw [nc_fo_succ, Nat.zero_add, ← i1]; exact j1, j2⟩, ?_⟩
        unfold B_X8_houses_14
        simp only [nc_let_eq]
        rw [show m M 7 = nI ps from (M_ps iI.1).trans w4, if_neg (nI_ge ha (by omega)), nI_1]
        exact e) (fun rc y u m ⟨i1, iI⟩ => by
        unfold B_X8_houses_14
        rw [show m M 7 = nI ps from (M_ps iI.1).trans w4, if_pos (nI_le (Nat.le_refl _) (by omega))]) (Nat.zero_le _) (by omega) ⟨rfl, h1, fun a k hk => F1 a k (by omega)⟩
    refine ⟨m3, ?_, i2, i3⟩
    show f_X8_houses mi M = _
    unfold f_X8_houses
    rw [M_lw h, e1]
    simp only [nc_some_bind]
    rw [← i1]
    exact e3
end HOUSE
