-- TOWN: both
theorem aC_mk {mi m' : nc_Mem} {X : Nat} {A : nc_A} {S' : nc_S} {v : Int32} (h : aC mi X = A) (hv : vC m' (X + 1) = S') (hl : m' (X + 52) 2 = v) (hF : ∀ a k, (a = X ∧ k = 8) ∨ a = X + 53 ∨ a = X + 80 ∨ a = X + 81 → m' a k = mi a k) : aC m' X = (S', (v, A.2.1.2), A.2.2) := by
  subst h
  simp only [aC, Prod.mk.injEq]
  refine ⟨hv, ⟨hl, ?_⟩, ⟨hF _ _ (by omega), ?_⟩, ?_⟩ <;> funext i <;> split <;> first | rfl | exact hF _ _ (by omega)
theorem aM_mk {mi m' : nc_Mem} {M : Nat} {A : nc_A} {S' : nc_S} {v : Int32} (h : aM mi M = A) (hv : vM m' M = S') (hl : m' M 1 = v) (hF : ∀ a k, (a = M ∧ k = 3) ∨ a = M + 1 ∨ a = M + 2 ∨ a = M + 3 → m' a k = mi a k) : aM m' M = (S', (v, A.2.1.2), A.2.2) := by
  subst h
  simp only [aM, Prod.mk.injEq]
  refine ⟨hv, ⟨hl, ?_⟩, ⟨hF _ _ (by omega), ?_⟩, ?_⟩ <;> funext i <;> split <;> first | rfl | exact hF _ _ (by omega)
theorem p_all_b {L : Nat} {ch : Nat → Int32} : ∀ k st q, st ≤ L → p_all L ch k st = some q → q ≤ L
  | 0, st, q, h, e => by
    have : st = q := Option.some.inj e
    omega
  | k + 1, st, q, h, e => by
    obtain ⟨q1, -⟩ := p_read_q (ch := ch) h
    rw [p_all_s] at e
    unfold p_nx at e
    split at e
    · split at e
      · cases e
      · exact p_all_b k _ q q1 e
    · have := Option.some.inj e
      omega
section TOWN
variable {n X M z : Nat} {mi : nc_Mem}
theorem nc_INV_town {y nz tr : Nat} (hX : X + 82 ≤ M) (hz : ¬ z = 0 → M + 54 ≤ z) (htr : tr = if y = 0 then nz else y) (hM : M + 54 ≤ tr) (hap : ¬ z = 0 → z + 54 ≤ tr ∨ tr + 54 ≤ z) (inv : nc_INV n X M z mi) : ∃ r m1 m2, f_X7_town mi X = some (m1, r) ∧ f_X8_town m1 M y nz = some (m2, r) ∧ nc_INV (n + 1) X M z m2 := by
  obtain ⟨A, c1, c2, c3, c4, c6, c5⟩ := inv
  obtain ⟨⟨pl, ps, th, ws⟩, ⟨L, eL, hL, lok⟩, wr⟩ := id c3
  obtain ⟨ch, hch⟩ : ∃ ch, ch = A.2.1.2 := ⟨_, rfl⟩
  have hpC : p_C L ch X mi := ⟨(C_lc c1).trans eL, fun i hi => by rw [hch]; exact C_lt c1 hi⟩
  have hpM0 : p_M L ch M mi := ⟨(M_lc c2).trans eL, fun i hi => by rw [hch]; exact M_lt c2 hi⟩
  have WF' : ∀ S' pl ps th, s_wf S' n pl ps th → nc_WF (n + 1) (S', ((0 : Int32), A.2.1.2), A.2.2) := fun S' pl ps th w => ⟨⟨pl, ps, th, s_wf_mono w (Nat.le_succ n)⟩, ⟨0, rfl, Nat.zero_le _, fun i hi => absurd hi (Nat.not_lt_zero _)⟩, wr⟩
  obtain ⟨m1, e1, F1⟩ := C_bad hpC hL
  cases ha : p_all L ch 64 0 with
  | some q =>
    have hq := p_all_b 64 0 q (Nat.zero_le _) ha
    rw [ha] at e1
    have G1 : ∀ a k, ¬ ((a = X + 52 ∧ (k = 2 ∨ k = 3)) ∨ a = X + 54) → nc_up m1 (X + 52) 2 0 a k = mi a k := fun a k h => (nc_up_ne (by omega)).trans (F1 a k (by omega))
    have hpM : p_M L ch M (nc_up m1 (X + 52) 2 0) := ⟨(G1 _ _ (by omega)).trans hpM0.1, fun i hi => (G1 _ _ (by omega)).trans (hpM0.2 i hi)⟩
    obtain ⟨m2, e2, F2⟩ := M_fault hpM hL
    rw [ha] at e2
    have G2 : ∀ a k, ¬ (a = M ∧ (k = 1 ∨ k = 14 ∨ k = 16)) → ¬ a = M + 26 → nc_up m2 M 1 0 a k = nc_up m1 (X + 52) 2 0 a k := fun a k h h' => (nc_up_ne (by omega)).trans (F2 a k (by omega))
    have vc : vC (nc_up m2 M 1 0) (X + 1) = A.1 := by
      rw [← C_v c1]
      exact vC_fr (fun a k a1 a2 a3 => (G2 a k (by omega) (by omega)).trans (G1 a k (by omega)))
    have vm : vM (nc_up m2 M 1 0) M = A.1 := by
      rw [← M_v c2]
      exact vM_fr2 (fun a k a1 a2 a3 => (G2 a k (by omega) (by omega)).trans (G1 a k (by omega)))
    refine ⟨(-1000) - nI q, nc_up m1 (X + 52) 2 0, nc_up m2 M 1 0, ?_, ?_, (A.1, ((0 : Int32), A.2.1.2), A.2.2), ?_, ?_, WF' _ _ _ _ ws, fun a c ha hc => ?_, c6, nc_IMG_fr c5 (Nat.le_succ n) (fun a k h => (G2 a k (by omega) (by omega)).trans (G1 a k (by omega)))⟩
    · unfold f_X7_town
      rw [e1, nc_some_bind]
      simp only [nc_let_eq]
      rw [if_pos (show (0 : Int32) ≤ p_bad (-1) (some q) from nI_le (a := 0) (Nat.zero_le _) (show q < 2 ^ 31 by omega))]
      rfl
    · unfold f_X8_town
      rw [e2, nc_some_bind]
      rw [if_neg (show ¬ p_bad (-9) (some q) = -9 from nI_ne9 (by omega)), nc_let_eq]
      rfl
    · exact aC_mk c1 vc ((G2 _ _ (by omega) (by omega)).trans nc_up_same) (fun a k h => (G2 a k (by omega) (by omega)).trans (G1 a k (by omega)))
    · exact aM_mk c2 vm nc_up_same (fun a k h => (G2 a k (by omega) (by omega)).trans (G1 a k (by omega)))
    · rw [G2 _ _ (by omega) (by omega), G1 _ _ (by omega)]
      exact c4 a c ha hc
  | none =>
    rw [ha] at e1
    have hg : s_good n A.1 := ⟨⟨pl, ps, th, ws⟩, c6⟩
    have hnx : p_nx L ch 64 0 = none := by
      unfold p_nx
      rw [ha]
      split <;> rfl
    obtain ⟨m2, e2, v2, -, F2⟩ := C_become (mi := m1) (o := X + 18) (r := X + 1) (by omega)
    have v2' : vC m2 (X + 18) = A.1 := by
      rw [v2, ← C_v c1]
      exact vC_fr (fun a k a1 a2 a3 => F1 a k (by omega))
    have T2 : p_FT X mi m2 := fun a k h => (F2 a k (by omega)).trans (F1 a k (by omega))
    have hpC2 := p_C_T hpC T2
    -- the reference up to its telling
    have modl : ∀ m6 : nc_Mem, (∀ a k, ¬ (X ≤ a ∧ a < X + 82) → m6 a k = mi a k) → ∃ m9, (∀ k7, f_X8_town m6 M y nz = f_X8_town m6 M y nz ∧ (k7 = (fun (x8 : Int32) (mi9 : nc_Mem) => nc_let (nc_up mi9 M 1 0) (fun (mi10 : nc_Mem) => some (mi10, x8))) → f_X8_town m6 M y nz = nc_loop (fun _ _ => none) (B_X8_town_55 M tr k7) 200 0 m9)) ∧ p_M L ch M m9 ∧ vM m9 M = A.1 ∧ m9 M 14 = nI 0 ∧ vM m9 tr = A.1 ∧ (∀ a k, ¬ ((a = M ∧ (k = 14 ∨ k = 16)) ∨ a = M + 26 ∨ (tr ≤ a ∧ a < tr + 54)) → m9 a k = m6 a k) := by
      intro m6 h6
      have hpM : p_M L ch M m6 := ⟨(h6 _ _ (by omega)).trans hpM0.1, fun i hi => (h6 _ _ (by omega)).trans (hpM0.2 i hi)⟩
      obtain ⟨m7, e7, F7⟩ := M_fault hpM hL
      rw [ha] at e7
      obtain ⟨m8, e8, v8, F8⟩ := M_takeFrom (mi := if y = 0 then nc_up m7 nz 5 4 else m7) (o := tr) (r := M) (by omega)
      have f0 : ∀ a k, (a < tr ∨ tr + 54 ≤ a) → (if y = 0 then nc_up m7 nz 5 4 else m7) a k = m7 a k := fun a k ha => by
        split
        · rename_i c
          rw [if_pos c] at htr
          exact nc_up_na (by omega)
        · rfl
      have f8 : ∀ a k, (a < tr ∨ tr + 54 ≤ a) → m8 a k = m7 a k := fun a k ha => (F8 a k (by omega)).trans (f0 a k ha)
      have G : ∀ a k, ¬ ((a = M ∧ (k = 14 ∨ k = 16)) ∨ a = M + 26 ∨ (tr ≤ a ∧ a < tr + 54)) → nc_up m8 M 14 0 a k = m6 a k := fun a k h => (nc_up_ne (by omega)).trans ((f8 a k (by omega)).trans (F7 a k (by omega)))
      have vM6 : vM m6 M = A.1 := by
        rw [← M_v c2]
        exact vM_fr (fun a k a1 a2 => h6 a k (by omega))
      have vM7 : vM m7 M = A.1 := by
        rw [← vM6]
        exact vM_fr2 (fun a k a1 a2 a3 => F7 a k (by omega))
      refine ⟨nc_up m8 M 14 0, fun k7 => ⟨rfl, fun hk => ?_⟩, ⟨(G _ _ (by omega)).trans hpM.1, fun i hi => (G _ _ (by omega)).trans (hpM.2 i hi)⟩, ?_, nc_up_same, ?_, G⟩
      · unfold f_X8_town
        rw [e7, nc_some_bind]
        rw [if_pos (show p_bad (-9) none = -9 from rfl)]
        simp only [nc_let_eq]
        rw [show (if y = 0 then nz + 0 else y) = tr from htr.symm]
        rw [show f_X8_takeFrom (if y = 0 then nc_up m7 (nz + 0) 5 4 else m7) tr M = some m8 from e8, nc_some_bind, hk]
        rfl
      · rw [← vM6]
        exact vM_fr2 (fun a k a1 a2 a3 => G a k (by omega))
      · have : vM (nc_up m8 M 14 0) tr = vM m8 tr := vM_fr (fun a k a1 a2 => nc_up_na (by omega))
        rw [this, v8, ← vM7]
        exact vM_fr (fun a k a1 a2 => f0 a k (by omega))
    have clss : ∀ k2 m3 r, k2 = (fun (x3 : Int32) (mi4 : nc_Mem) => Option.bind (f_X5_measure mi4 (X + 18)) (fun (q5 : nc_Mem) => Option.bind (f_X5_becomeLike q5 (X + 1) (X + 18)) (fun (q6 : nc_Mem) => some (q6, x3)))) → nc_loop (fun _ _ _ => none) (B_X7_tellStatements_15 X k2) 200 0 0 m2 = some (m3, r) → f_X7_town mi X = some (nc_up m3 (X + 52) 2 0, r) := by
      intro k2 m3 r hk e
      unfold f_X7_town
      rw [e1, nc_some_bind]
      simp only [nc_let_eq]
      rw [if_neg (show ¬ (0 : Int32) ≤ p_bad (-1) none by decide)]
      unfold f_X7_tellStatements
      rw [e2, nc_some_bind, nc_let_eq, ← hk, e, nc_some_bind]
    rcases tell_sim (X := X) (M := M) (tr := tr) (n := n) (k2 := fun (x3 : Int32) (mi4 : nc_Mem) => Option.bind (f_X5_measure mi4 (X + 18)) (fun (q5 : nc_Mem) => Option.bind (f_X5_becomeLike q5 (X + 1) (X + 18)) (fun (q6 : nc_Mem) => some (q6, x3)))) (k7 := fun (x8 : Int32) (mi9 : nc_Mem) => nc_let (nc_up mi9 M 1 0) (fun (mi10 : nc_Mem) => some (mi10, x8))) hL 64 200 200 0 0 A.1 (by omega) (by omega) (by omega) (by omega) (Nat.zero_le _) hg hnx with ⟨S', k, g', jC, jM⟩ | ⟨q, jC, jM⟩
    · obtain ⟨⟨pl', ps', th', ws'⟩, sy'⟩ := g'
      obtain ⟨m3, e3, v3, T3⟩ := jC m2 hpC2 v2'
      obtain ⟨m4, e4, l4, F4⟩ := C_measure v3 (s_wf_ww ws')
      obtain ⟨m5, e5, v5, L5, F5⟩ := C_become (mi := m4) (o := X + 1) (r := X + 18) (by omega)
      have v5' : vC m5 (X + 1) = S' := by
        rw [v5, ← v3]
        exact vC_fr (fun a k a1 a2 a3 => F4 a k (by omega))
      have G6 : ∀ a k, ¬ ((X + 1 ≤ a ∧ a < X + 35) ∨ (a = X + 52 ∧ (k = 2 ∨ k = 3)) ∨ a = X + 54) → nc_up m5 (X + 52) 2 0 a k = mi a k := fun a k h => (nc_up_ne (by omega)).trans ((F5 a k (by omega)).trans ((F4 a k (by omega)).trans ((T3 a k (by omega)).trans (T2 a k (by omega)))))
      obtain ⟨m9, e9, p9, v9, f9, t9, F9⟩ := modl (nc_up m5 (X + 52) 2 0) (fun a k h => G6 a k (by omega))
      obtain ⟨m10, e10, v10, F10⟩ := jM m9 p9 v9 f9
      have G10 : ∀ a k, ¬ ((M ≤ a ∧ a < M + 27) ∨ (tr ≤ a ∧ a < tr + 54)) → nc_up m10 M 1 0 a k = nc_up m5 (X + 52) 2 0 a k := fun a k h => (nc_up_ne (by omega)).trans ((F10 a k (by omega)).trans (F9 a k (by omega)))
      have vc : vC (nc_up m10 M 1 0) (X + 1) = S' := by
        rw [← v5']
        exact vC_fr (fun a k a1 a2 a3 => (G10 a k (by omega)).trans (nc_up_na (by omega)))
      have vm : vM (nc_up m10 M 1 0) M = S' := by
        rw [← v10]
        exact vM_fr2 (fun a k a1 a2 a3 => nc_up_ne (by omega))
      refine ⟨nI k, nc_up m5 (X + 52) 2 0, nc_up m10 M 1 0, ?_, ?_, (S', ((0 : Int32), A.2.1.2), A.2.2), ?_, ?_, WF' _ _ _ _ ws', fun a c ha hc => ?_, sy', nc_IMG_fr c5 (Nat.le_succ n) (fun a k h => (G10 a k (by omega)).trans (G6 a k (by omega)))⟩
      · refine clss _ m5 (nI k) rfl (Eq.trans e3 ?_)
        rw [e4, nc_some_bind, e5, nc_some_bind]
      · rw [(e9 _).2 rfl]
        exact Eq.trans e10 rfl
      · exact aC_mk c1 vc ((G10 _ _ (by omega)).trans nc_up_same) (fun a k h => (G10 a k (by omega)).trans (G6 a k (by omega)))
      · refine aM_mk c2 vm nc_up_same (fun a k h => ?_)
        rw [nc_up_ne (by omega), F10 a k (by omega), F9 a k (by omega)]
        exact G6 a k (by omega)
      · rw [G10 _ _ (by omega), nc_up_na (by omega), L5 _ (by omega)]
        exact l4 a c ha hc
    · obtain ⟨m3, e3, T3⟩ := jC m2 hpC2 v2'
      have G6 : ∀ a k, ¬ ((X + 18 ≤ a ∧ a < X + 35) ∨ (a = X + 52 ∧ (k = 2 ∨ k = 3)) ∨ a = X + 54) → nc_up m3 (X + 52) 2 0 a k = mi a k := fun a k h => (nc_up_ne (by omega)).trans ((T3 a k (by omega)).trans (T2 a k (by omega)))
      obtain ⟨m9, e9, p9, v9, f9, t9, F9⟩ := modl (nc_up m3 (X + 52) 2 0) (fun a k h => G6 a k (by omega))
      obtain ⟨m10, e10, F10⟩ := jM m9 p9 v9 f9
      obtain ⟨m11, e11, v11, F11⟩ := M_takeFrom (mi := m10) (o := M) (r := tr) (by omega)
      have G11 : ∀ a k, ¬ ((M ≤ a ∧ a < M + 27) ∨ (tr ≤ a ∧ a < tr + 54)) → nc_up m11 M 1 0 a k = nc_up m3 (X + 52) 2 0 a k := fun a k h => (nc_up_ne (by omega)).trans ((F11 a k (by omega)).trans ((F10 a k (by omega)).trans (F9 a k (by omega))))
      have vc : vC (nc_up m11 M 1 0) (X + 1) = A.1 := by
        rw [← C_v c1]
        exact vC_fr (fun a k a1 a2 a3 => (G11 a k (by omega)).trans (G6 a k (by omega)))
      have vm : vM (nc_up m11 M 1 0) M = A.1 := by
        have x1 : vM (nc_up m11 M 1 0) M = vM m11 M := vM_fr2 (fun a k a1 a2 a3 => nc_up_ne (by omega))
        rw [x1, v11, ← t9]
        exact vM_fr (fun a k a1 a2 => F10 a k (by omega))
      refine ⟨(-2000) - nI q, nc_up m3 (X + 52) 2 0, nc_up m11 M 1 0, clss _ m3 _ rfl e3, ?_, (A.1, ((0 : Int32), A.2.1.2), A.2.2), ?_, ?_, WF' _ _ _ _ ws, fun a c ha hc => ?_, c6, nc_IMG_fr c5 (Nat.le_succ n) (fun a k h => (G11 a k (by omega)).trans (G6 a k (by omega)))⟩
      · rw [(e9 _).2 rfl]
        refine Eq.trans e10 ?_
        rw [e11, nc_some_bind]
      · exact aC_mk c1 vc ((G11 _ _ (by omega)).trans nc_up_same) (fun a k h => (G11 a k (by omega)).trans (G6 a k (by omega)))
      · refine aM_mk c2 vm nc_up_same (fun a k h => ?_)
        rw [nc_up_ne (by omega), F11 a k (by omega), F10 a k (by omega), F9 a k (by omega)]
        exact G6 a k (by omega)
      · rw [G11 _ _ (by omega), G6 _ _ (by omega)]
        exact c4 a c ha hc
end TOWN
