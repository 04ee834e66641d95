-- the class leads
def nc_tw (S : nc_S) (pl b : Nat) (m : nc_Mem) : Prop := m b 4 = nI pl ∧ (∀ a c, a < 7 → c < 7 → m (b + 3) (7 * a + c) = nI (s_wn S a c)) ∧ nc_lst S b m
def nc_wC (m : nc_Mem) (o len : Nat) (st : Nat → Nat × Nat) : Prop := m o 2 = nI len ∧ ∀ i, i < len → m (o + 1) i = nI (st i).1 ∧ m (o + 2) i = nI (st i).2
theorem C_way {m : nc_Mem} {S : nc_S} {pl b a c : Nat} (h : nc_tw S pl b m) (h7 : pl ≤ 7) (ha : a < pl) (hc : c < pl) : f_X5_wayBetween m b (nI a) (nI c) = some (nI (s_wn S a c)) := by
  unfold f_X5_wayBetween
  rw [C_isL h.1 h7 ha, if_neg (by decide), C_isL h.1 h7 hc, if_neg (by decide), nc_rowc (by omega) (by omega), nc_at_nI (by omega) (by omega), h.2.1 a c (by omega) (by omega)]
theorem C_next {m : nc_Mem} {S : nc_S} {pl b o h g : Nat} (tw : nc_tw S pl b m) (hw : nc_ww S pl) (h7 : pl ≤ 7) (hh : h < pl) (hg : g < pl) (hne : ¬ h = g) (hd : s_D S h g < 1000000) : f_X6_nextToward m o b (nI h) (nI g) = some (nI (s_nxt S pl g h)) := by
  obtain ⟨n1, n2, n3, n4⟩ := s_nxt_p hw h7 hne hd
  have hwl : ∀ a c, s_wn S a c ≤ 60 := s_wn_le (fun a c ha hc => (hw a c ha hc).1)
  unfold f_X6_nextToward
  rw [C_least tw.2.2 tw.1 h7 hh hg]
  simp only [nc_some_bind]
  refine nc_fndL (P := fun j => ¬ s_wn S h j = 0 ∧ s_wn S h j + s_D S j g = s_D S h g) _ (q := s_nxt S pl g h) (fun rc j hj hP => ?_) (fun rc => ?_) (by omega) n4
  · unfold B_X6_nextToward_11
    simp only [nc_let_eq]
    have l1 := hwl h j
    have l2 := s_D_le hw j g
    rw [tw.1, if_neg (nI_ge (by omega) (by omega)), C_way tw h7 hh (by omega), C_least tw.2.2 tw.1 h7 (by omega) hg]
    simp only [nc_some_bind]
    rw [nI_1]
    by_cases c : s_wn S h j = 0
    · rw [c, if_pos (show nI 0 ≤ 0 by decide)]
    · rw [if_neg (show ¬ nI (s_wn S h j) ≤ 0 from nI_ge (a := 0) (by omega) (by omega)), nI_add, if_neg (fun z => hP ⟨c, (nI_eq (by omega) (by omega)).mp z⟩)]
  · unfold B_X6_nextToward_11
    simp only [nc_let_eq]
    have l1 := hwl h (s_nxt S pl g h)
    rw [tw.1, if_neg (nI_ge n1 (by omega)), C_way tw h7 hh n1, C_least tw.2.2 tw.1 h7 n1 hg]
    simp only [nc_some_bind]
    rw [if_neg (show ¬ nI (s_wn S h (s_nxt S pl g h)) ≤ 0 from nI_ge (a := 0) (by omega) (by omega)), nI_add, n3, if_pos rfl]
theorem C_app {m : nc_Mem} {o i : Nat} {u v : Int32} (h : m o 2 = nI i) (hi : i < 7) : f_X6_append m o u v = some (nc_up (nc_up (nc_up m (o + 1) i u) (o + 2) i v) o 2 (nI (i + 1))) := by
  unfold f_X6_append
  simp only [nc_let_eq]
  rw [h, if_neg (show ¬ 7 ≤ nI i from nI_ge (b := 7) hi (by omega)), nc_at_nI hi (by omega), nc_up_na (by omega), h, nc_at_nI hi (by omega), nc_up_na (by omega), nc_up_na (by omega), h, nI_1]
theorem nc_tw_fr {S : nc_S} {pl b : Nat} {m m' : nc_Mem} (h : nc_tw S pl b m) (hF : ∀ a k, b ≤ a → a < b + 5 → m' a k = m a k) : nc_tw S pl b m' := by
  refine ⟨(hF b 4 (by omega) (by omega)).trans h.1, fun a c ha hc => (hF _ _ (by omega) (by omega)).trans (h.2.1 a c ha hc), fun a c ha hc => (hF _ _ (by omega) (by omega)).trans (h.2.2 a c ha hc)⟩
theorem C_lead {mi : nc_Mem} {S : nc_S} {pl b o a g f : Nat} (tw : nc_tw S pl b mi) (hw : nc_ww S pl) (h7 : pl ≤ 7) (ha : a < pl) (hg : g < pl) (hob : b + 5 ≤ o) : ∃ m', f_X6_lead mi o b (nI a) (nI g) (nI f) = some m' ∧ nc_wC m' o (s_len S pl g a f) (s_st S pl g a f) ∧ ∀ x k, ¬ (o ≤ x ∧ x < o + 3 ∧ (x = o → k = 2)) → m' x k = mi x k := by
  have tw1 : nc_tw S pl b (nc_up mi o 2 0) := nc_tw_fr tw (fun x k h1 h2 => nc_up_na (by omega))
  unfold f_X6_lead
  simp only [nc_let_eq]
  rw [C_least tw1.2.2 tw1.1 h7 ha hg]
  simp only [nc_some_bind]
  by_cases hd : s_D S a g < 1000000
  · rw [if_pos (show nI (s_D S a g) < 1000000 from nI_lt (b := 1000000) hd (by omega)), C_app (m := nc_up mi o 2 0) (i := 0) (u := nI a) (v := nI f) (nc_up_same (v := 0)) (by omega)]
    simp only [nc_some_bind]
    obtain ⟨j1, j2, j3⟩ := s_i0_p (f := f) hw h7 ha hd
    have key := nc_loop_ind (z := fun _ _ _ _ => none) (B := B_X6_lead_35 o b (nI g)) (fun r κ => ∀ i m, i + r = s_i0 S pl g a f → nc_wC m o (i + 1) (s_st S pl g a f) → (∀ x k, ¬ (o ≤ x ∧ x < o + 3 ∧ (x = o → k = 2)) → m x k = mi x k) → ∃ m', κ (nI (s_st S pl g a f i).1) (nI (s_st S pl g a f i).2) (nI (i + 1)) m = some m' ∧ nc_wC m' o (s_i0 S pl g a f + 1) (s_st S pl g a f) ∧ ∀ x k, ¬ (o ≤ x ∧ x < o + 3 ∧ (x = o → k = 2)) → m' x k = mi x k) (fun r κ ih i m hi hI hF => by
      cases r with
      | zero =>
        have e : i = s_i0 S pl g a f := by omega
        subst e
        refine ⟨m, ?_, hI, hF⟩
        unfold B_X6_lead_35
        rw [j2, if_pos rfl]
        split <;> rfl
      | succ r =>
        obtain ⟨b1, b2, b3, b4⟩ := s_st_p (f := f) hw h7 ha hd i (fun j hj => j3 j (by omega))
        have hne := j3 i (by omega)
        obtain ⟨n1, n2, n3, n4⟩ := s_nxt_p hw h7 hne b2
        have twm : nc_tw S pl b m := nc_tw_fr tw (fun x k h1 h2 => hF x k (by omega))
        obtain ⟨m', e', hI', hF'⟩ := ih r (by omega) (i + 1) (nc_up (nc_up (nc_up m (o + 1) (i + 1) (nI (s_st S pl g a f (i + 1)).1)) (o + 2) (i + 1) (nI (s_st S pl g a f (i + 1)).2)) o 2 (nI (i + 2))) (by omega) ⟨nc_up_same, fun j hj => by
          by_cases e : j = i + 1
          · subst e
            rw [nc_up_na (by omega), nc_up_na (by omega), nc_up_same, nc_up_na (by omega), nc_up_same]
            exact ⟨rfl, rfl⟩
          · rw [nc_up_na (by omega), nc_up_na (by omega), nc_up_ne (by omega), nc_up_na (by omega), nc_up_ne (by omega), nc_up_na (by omega)]
            exact hI.2 j (by omega)⟩ (fun x k hx => by
          rw [nc_up_ne (by omega), nc_up_na (by omega), nc_up_na (by omega)]
          exact hF x k hx)
        refine ⟨m', ?_, hI', hF'⟩
        unfold B_X6_lead_35
        simp only [nc_let_eq]
        rw [if_neg (show ¬ 7 ≤ nI (i + 1) from nI_ge (b := 7) (by omega) (by omega)), if_neg (fun z => hne ((nI_eq (by omega) (by omega)).mp z)), C_next twm hw h7 b1 hg hne b2]
        simp only [nc_some_bind]
        rw [C_way twm h7 b1 n1]
        simp only [nc_some_bind]
        rw [nI_add, C_app hI.1 (by omega), nI_1]
        exact e') 200 (s_i0 S pl g a f) (by omega) 0 (nc_up (nc_up (nc_up (nc_up mi o 2 0) (o + 1) 0 (nI a)) (o + 2) 0 (nI f)) o 2 (nI (0 + 1))) (by omega) ⟨nc_up_same, fun j hj => by
          have : j = 0 := by omega
          subst this
          rw [nc_up_na (by omega), nc_up_na (by omega), nc_up_same, nc_up_na (by omega), nc_up_same]
          exact ⟨rfl, rfl⟩⟩ (fun x k hx => by
          rw [nc_up_ne (by omega), nc_up_na (by omega), nc_up_na (by omega), nc_up_ne (by omega)])
    obtain ⟨m', e', h1, h2⟩ := key
    refine ⟨m', e', ?_, h2⟩
    unfold s_len
    rw [if_pos hd]
    exact h1
  · have hl := s_D_le hw a g
    rw [if_neg (show ¬ nI (s_D S a g) < 1000000 from nI_nlt (b := 1000000) (by omega) (by omega))]
    refine ⟨_, rfl, ?_, fun x k hx => nc_up_ne (by omega)⟩
    unfold s_len
    rw [if_neg hd]
    exact ⟨nc_up_same, fun i hi => absurd hi (Nat.not_lt_zero _)⟩
-- the reference finds ways
def nc_wM (m : nc_Mem) (M p len : Nat) (st : Nat → Nat × Nat) : Prop := m (M + 49) p = nI len ∧ ∀ i, i < len → m (M + 35 + 1 + p) i = nI (st i).1 ∧ m (M + 42 + 1 + p) i = nI (st i).2
theorem M_next {m : nc_Mem} {S : nc_S} {pl M h g : Nat} {K : Int32 → Option nc_Mem} (hv : ∀ a c, a < 7 → c < 7 → m (M + 4 + 1 + a) c = nI (s_wn S a c)) (hf : nc_fr_far S M pl m) (hw : nc_ww S pl) (h7 : pl ≤ 7) (hh : h < pl) (hg : g < pl) (hne : ¬ h = g) (hd : s_D S h g < 1000000) : nc_loop (fun _ => none) (B_X8_findWays_96 M g (nI h) m K) 200 0 = K (nI (s_nxt S pl g h)) := by
  obtain ⟨n1, n2, n3, n4⟩ := s_nxt_p hw h7 hne hd
  have hwl : ∀ a c, s_wn S a c ≤ 60 := s_wn_le (fun a c ha hc => (hw a c ha hc).1)
  have dh := s_DF hw h7 hh hg
  refine nc_fndL (P := fun j => ¬ s_wn S h j = 0 ∧ s_wn S h j + s_D S j g = s_D S h g) _ (q := s_nxt S pl g h) (fun rc j hj hP => ?_) (fun rc => ?_) (by omega) n4
  · unfold B_X8_findWays_96
    simp only [nc_let_eq]
    have l1 := hwl h j
    have dj := s_DF hw h7 (show j < pl by omega) hg
    rw [nI_1, nc_at_nI (by omega) (by omega), nc_at_nI (by omega) (by omega), hv h j (by omega) (by omega), hf j g (by omega) hg, hf h g hh hg]
    by_cases e : j = h
    · rw [if_pos (congrArg nI e)]
    · rw [if_neg (fun z => e ((nI_eq (by omega) (by omega)).mp z))]
      by_cases c : s_wn S h j = 0
      · rw [c, if_pos (show nI 0 = 0 by decide)]
      · rw [if_neg (nI_ne0 (by omega) (by omega)), nI_add, if_neg (fun z => hP ⟨c, ?_⟩)]
        have z' := (nI_eq (by omega) (by omega)).mp z
        omega
  · unfold B_X8_findWays_96
    simp only [nc_let_eq]
    have l1 := hwl h (s_nxt S pl g h)
    have dj := s_DF hw h7 n1 hg
    have hnh := (s_wn_ne hw n2).2.2
    rw [if_neg (fun z => hnh ((nI_eq (by omega) (by omega)).mp z).symm), nc_at_nI (by omega) (by omega), nc_at_nI (by omega) (by omega), hv h _ (by omega) (by omega), if_neg (nI_ne0 (by omega) (by omega)), hf _ g n1 hg, hf h g hh hg, nI_add, if_pos (congrArg nI (by omega))]
def nc_frW (M : Nat) (mi m : nc_Mem) : Prop := ∀ x k, ¬ ((M + 36 ≤ x ∧ x < M + 42) ∨ (M + 43 ≤ x ∧ x < M + 50)) → m x k = mi x k
theorem M_lead {mi : nc_Mem} {S : nc_S} {pl M p a g f : Nat} {x2 : Int32} {rc4 : Int32 → nc_Mem → Option nc_Mem} (hv : ∀ a c, a < 7 → c < 7 → mi (M + 4 + 1 + a) c = nI (s_wn S a c)) (hf : nc_fr_far S M pl mi) (hw : nc_ww S pl) (h7 : pl ≤ 7) (ha : a < pl) (hg : g < pl) (hp : p < 6) (hd : s_D S a g < 1000000) (h0 : nc_wM mi M p 1 (s_st S pl g a f)) : ∃ m', nc_loop (fun _ _ _ => none) (B_X8_findWays_88 M x2 rc4 p (nI g) g) 200 (nI a) (nI f) mi = rc4 (x2 + 1) m' ∧ nc_wM m' M p (s_len S pl g a f) (s_st S pl g a f) ∧ ∀ x k, ¬ ((x = M + 49 ∧ k = p) ∨ x = M + 36 + p ∨ x = M + 43 + p) → m' x k = mi x k := by
  obtain ⟨j1, j2, j3⟩ := s_i0_p (f := f) hw h7 ha hd
  have key := nc_loop_ind (z := fun _ _ _ => none) (B := B_X8_findWays_88 M x2 rc4 p (nI g) g) (fun r κ => ∀ i m, i + r = s_i0 S pl g a f → nc_wM m M p (i + 1) (s_st S pl g a f) → (∀ x k, ¬ ((x = M + 49 ∧ k = p) ∨ x = M + 36 + p ∨ x = M + 43 + p) → m x k = mi x k) → ∃ m', κ (nI (s_st S pl g a f i).1) (nI (s_st S pl g a f i).2) m = rc4 (x2 + 1) m' ∧ nc_wM m' M p (s_i0 S pl g a f + 1) (s_st S pl g a f) ∧ ∀ x k, ¬ ((x = M + 49 ∧ k = p) ∨ x = M + 36 + p ∨ x = M + 43 + p) → m' x k = mi x k) (fun r κ ih i m hi hI hF => by
    cases r with
    | zero =>
      have e : i = s_i0 S pl g a f := by omega
      subst e
      refine ⟨m, ?_, hI, hF⟩
      unfold B_X8_findWays_88
      simp only [nc_let_eq]
      rw [j2, if_pos rfl]
    | succ r =>
      obtain ⟨b1, b2, b3, b4⟩ := s_st_p (f := f) hw h7 ha hd i (fun j hj => j3 j (by omega))
      have hne := j3 i (by omega)
      obtain ⟨n1, n2, n3, n4⟩ := s_nxt_p hw h7 hne b2
      have hvm : ∀ a c, a < 7 → c < 7 → m (M + 4 + 1 + a) c = nI (s_wn S a c) := fun a c ha hc => (hF _ _ (by omega)).trans (hv a c ha hc)
      have hfm : nc_fr_far S M pl m := fun a c ha hc => (hF _ _ (by omega)).trans (hf a c ha hc)
      obtain ⟨m', e', hI', hF'⟩ := ih r (by omega) (i + 1) (nc_up (nc_up (nc_up m (M + 35 + 1 + p) (i + 1) (nI (s_st S pl g a f (i + 1)).1)) (M + 49) p (nI (i + 2))) (M + 42 + 1 + p) (i + 1) (nI (s_st S pl g a f (i + 1)).2)) (by omega) ⟨by rw [nc_up_na (by omega), nc_up_same], fun j hj => by
          by_cases e : j = i + 1
          · subst e
            rw [nc_up_na (by omega), nc_up_na (by omega), nc_up_same, nc_up_same]
            exact ⟨rfl, rfl⟩
          · rw [nc_up_na (by omega), nc_up_na (by omega), nc_up_ne (by omega), nc_up_ne (by omega), nc_up_na (by omega), nc_up_na (by omega)]
            exact hI.2 j (by omega)⟩ (fun x k hx => by
          rw [nc_up_na (by omega), nc_up_ne (by omega), nc_up_na (by omega)]
          exact hF x k hx)
      refine ⟨m', ?_, hI', hF'⟩
      unfold B_X8_findWays_88
      simp only [nc_let_eq]
      rw [if_neg (fun z => hne ((nI_eq (by omega) (by omega)).mp z)), M_next hvm hfm hw h7 b1 hg hne b2, nc_at_nI (by omega) (by omega), nc_at_nI (by omega) (by omega), hvm _ _ (by omega) (by omega), nI_add, hI.1, nc_at_nI (by omega) (by omega), nc_up_na (by omega), hI.1, nc_at_nI (by omega) (by omega), nI_1]
      exact e') 200 (s_i0 S pl g a f) (by omega) 0 mi (by omega) h0 (fun _ _ _ => rfl)
  obtain ⟨m', e', h1, h2⟩ := key
  refine ⟨m', e', ?_, h2⟩
  unfold s_len
  rw [if_pos hd]
  exact h1
theorem M_findWays {mi : nc_Mem} {M n pl ps th : Nat} {A : nc_A} (h : aM mi M = A) (ws : s_wf A.1 n pl ps th) : ∃ m', f_X8_findWays mi M = some m' ∧ aM m' M = A ∧ nc_fr_far A.1 M pl m' ∧ (∀ p, p < ps → nc_wM m' M p (s_len A.1 pl (s_cl (s_P A.1 p 1)) (s_cl (s_P A.1 p 0)) (s_cl (s_P A.1 p 2))) (s_st A.1 pl (s_cl (s_P A.1 p 1)) (s_cl (s_P A.1 p 0)) (s_cl (s_P A.1 p 2)))) ∧ ∀ x k, ¬ (M + 28 ≤ x ∧ x < M + 50) → m' x k = mi x k := by
  obtain ⟨w1, w2, w3, w4, w5, w6, w7, w8, w9, w10, w11⟩ := id ws
  have hw := s_wf_ww ws
  obtain ⟨m1, e1, hf, hF1⟩ := M_findFar (M_v h) hw w1 w3
  have h1 := aM_far h hF1
  obtain ⟨m2, ⟨hI, hF2⟩, e2⟩ := nc_forI (z := fun _ _ => none) (B := B_X8_findWays_6 M) (s := 0) (n := 200) (x := m1) (fun q m => (∀ p, p < q → nc_wM m M p (s_len A.1 pl (s_cl (s_P A.1 p 1)) (s_cl (s_P A.1 p 0)) (s_cl (s_P A.1 p 2))) (s_st A.1 pl (s_cl (s_P A.1 p 1)) (s_cl (s_P A.1 p 0)) (s_cl (s_P A.1 p 2)))) ∧ nc_frW M m1 m) ps some (fun rc p m _ hp ⟨hI, hF⟩ => by
      obtain ⟨⟨a, ha, ea⟩, ⟨g, hg, eg⟩, ⟨f, hf', ef⟩, -⟩ := w10 p hp
      have hm : aM m M = A := by
        rw [← h1]
        exact aM_fr (fun a k h1 h2 => hF a k (by omega))
      have hv : ∀ a c, a < 7 → c < 7 → m (M + 4 + 1 + a) c = nI (s_wn A.1 a c) := fun a c ha hc => (vM_w ha hc).trans (by rw [M_v hm]; exact s_wn_e (fun a c ha hc => (hw a c ha hc).1) ha hc)
      have hfm : nc_fr_far A.1 M pl m := fun a c ha hc => (hF _ _ (by omega)).trans (hf a c ha hc)
      have dd := s_DF hw w3 ha hg
      have ex : ∃ m', B_X8_findWays_6 M rc (nI p) m = rc (nI p + 1) m' ∧ nc_wM m' M p (s_len A.1 pl g a f) (s_st A.1 pl g a f) ∧ ∀ x k, ¬ ((x = M + 49 ∧ k = p) ∨ x = M + 36 + p ∨ x = M + 43 + p) → m' x k = m x k := by
        unfold B_X8_findWays_6
        simp only [nc_let_eq]
        rw [M_ps hm, w4, if_neg (nI_ge hp (by omega)), nc_at_nI (by omega) (by omega), M_rP hm (show p < 6 by omega) (show 0 < 7 by omega), M_rP hm (show p < 6 by omega) (show 1 < 7 by omega), M_rP hm (show p < 6 by omega) (show 2 < 7 by omega), ea, eg, ef, nc_at_nI (by omega) (by omega), nc_at_nI (by omega) (by omega), nc_up_na (by omega), hfm a g ha hg]
        by_cases hd : s_D A.1 a g < 1000000
        · rw [if_neg (show ¬ 100000 ≤ nI (s_F A.1 pl a g) from nI_ge (b := 100000) (by omega) (by omega))]
          obtain ⟨m', e', h1', h2'⟩ := M_lead (x2 := nI p) (rc4 := rc) (p := p) (a := a) (g := g) (f := f) (mi := nc_up (nc_up (nc_up (nc_up m (M + 49) p 0) (M + 35 + 1 + p) 0 (nI a)) (M + 42 + 1 + p) 0 (nI f)) (M + 49) p 1) (fun a c ha hc => by
              rw [nc_up_na (by omega), nc_up_na (by omega), nc_up_na (by omega), nc_up_na (by omega)]
              exact hv a c ha hc) (fun a c ha hc => by
              rw [nc_up_na (by omega), nc_up_na (by omega), nc_up_na (by omega), nc_up_na (by omega)]
              exact hfm a c ha hc) hw w3 ha hg (by omega) hd ⟨nc_up_same, fun i hi => by
              have : i = 0 := by omega
              subst this
              rw [nc_up_na (by omega), nc_up_na (by omega), nc_up_same, nc_up_na (by omega), nc_up_same]
              exact ⟨rfl, rfl⟩⟩
          refine ⟨m', e', h1', fun x k hx => ?_⟩
          rw [h2' x k hx, nc_up_ne (by omega), nc_up_na (by omega), nc_up_na (by omega), nc_up_ne (by omega)]
        · rw [if_pos (show 100000 ≤ nI (s_F A.1 pl a g) from nI_le (a := 100000) (by omega) (by omega))]
          refine ⟨_, rfl, ?_, fun x k hx => nc_up_ne (by omega)⟩
          unfold s_len
          rw [if_neg hd]
          exact ⟨nc_up_same, fun i hi => absurd hi (Nat.not_lt_zero _)⟩
      obtain ⟨m', e', h1', h2'⟩ := ex
      refine ⟨m', ⟨fun q hq => ?_, fun x k hx => ?_⟩, ?_⟩
      · by_cases c : q = p
        · subst c
          rw [ea, eg, ef, s_cl_nI (by omega), s_cl_nI (by omega), s_cl_nI (by omega)]
          exact h1'
        · obtain ⟨i1, i2⟩ := hI q (by omega)
          refine ⟨(h2' _ _ (by omega)).trans i1, fun i hi => ?_⟩
          rw [h2' _ _ (by omega), h2' _ _ (by omega)]
          exact i2 i hi
      · rw [h2' x k (by omega)]
        exact hF x k hx
      · rw [e', nI_1]) (fun rc m ⟨hI, hF⟩ => by
      have hm : aM m M = A := by
        rw [← h1]
        exact aM_fr (fun a k h1 h2 => hF a k (by omega))
      unfold B_X8_findWays_6
      rw [M_ps hm, w4, if_pos (nI_le (Nat.le_refl _) (by omega))]) (Nat.zero_le _) (by omega) ⟨fun p hp => absurd hp (Nat.not_lt_zero _), fun _ _ _ => rfl⟩
  refine ⟨m2, ?_, ?_, fun a c ha hc => (hF2 _ _ (by omega)).trans (hf a c ha hc), hI, fun x k hx => (hF2 x k (by omega)).trans (hF1 x k (by omega))⟩
  · unfold f_X8_findWays
    rw [e1]
    exact e2
  · rw [← h1]
    exact aM_fr (fun a k h1 h2 => hF2 a k (by omega))
