/-- the reference's least minutes -/
def s_F (S : nc_S) (pl a c : Nat) : Nat := fwS (s_wn S) 100000 pl a c
theorem M_findFar {mi : nc_Mem} {M pl : Nat} {S : nc_S} (hS : vM mi M = S) (hw' : nc_ww S pl) (hpl : s_pl S = nI pl) (h7 : pl ≤ 7) : ∃ mi', f_X8_findFar mi M = some mi' ∧ (∀ a c, a < pl → c < pl → mi' (M + 27 + 1 + a) c = nI (s_F S pl a c)) ∧ ∀ a k, ¬ (M + 28 ≤ a ∧ a < M + 35) → mi' a k = mi a k := by
  have hw := fun a c ha hc => (hw' a c ha hc).1
  have hwl := s_wn_le hw
  have hle : ∀ k a c, fwS (s_wn S) 100000 k a c ≤ 100000 := fun k a c => fw_le (fun a c => Nat.le_trans (hwl a c) (by omega)) k a c
  have hp5 : ∀ m : nc_Mem, (∀ a k, ¬ (M + 28 ≤ a ∧ a < M + 35) → m a k = mi a k) → m M 5 = nI pl := fun m hF => by
    rw [hF M 5 (by omega)]
    exact (congrArg s_pl hS).trans hpl
  -- one row of a round
  have row : ∀ (k a : Nat) (m0 : nc_Mem) (rc11 : Int32 → nc_Mem → Option nc_Mem), k < pl → a < pl → (∀ a' c, a' < pl → c < pl → m0 (M + 27 + 1 + a') c = nI (if a' < a then fwS (s_wn S) 100000 (k + 1) a' c else fwS (s_wn S) 100000 k a' c)) → (∀ a k, ¬ (M + 28 ≤ a ∧ a < M + 35) → m0 a k = mi a k) → ∃ m1, ((∀ a' c, a' < pl → c < pl → m1 (M + 27 + 1 + a') c = nI (if a' < a + 1 then fwS (s_wn S) 100000 (k + 1) a' c else fwS (s_wn S) 100000 k a' c)) ∧ (∀ a k, ¬ (M + 28 ≤ a ∧ a < M + 35) → m1 a k = mi a k)) ∧ nc_loop (fun _ _ => none) (B_X8_findFar_95 M (nI k) (nI a) rc11) 200 0 m0 = rc11 (nI (a + 1)) m1 := by
    intro k a m0 rc11 hk ha h0 hf
    obtain ⟨m1, h1, e1⟩ := nc_forI (z := fun _ _ => none) (B := B_X8_findFar_95 M (nI k) (nI a) rc11) (s := 0) (n := 200) (x := m0) (fun i m => (∀ a' c, a' < pl → c < pl → m (M + 27 + 1 + a') c = nI (if a' < a ∨ (a' = a ∧ c < i) then fwS (s_wn S) 100000 (k + 1) a' c else fwS (s_wn S) 100000 k a' c)) ∧ ∀ a k, ¬ (M + 28 ≤ a ∧ a < M + 35) → m a k = mi a k) pl (fun m => rc11 (nI (a + 1)) m) (fun rc c m _ hc ⟨hI, hF⟩ => by
        refine ⟨nc_up m (M + 27 + 1 + a) c (nI (fwS (s_wn S) 100000 (k + 1) a c)), ⟨fun a' c' ha' hc' => ?_, fun a' k' h' => ?_⟩, ?_⟩
        · by_cases e : a' = a ∧ c' = c
          · rw [e.1, e.2, nc_up_same, if_pos (by omega)]
          · rw [nc_up_ne (by omega), hI a' c' ha' hc']
            by_cases q : a' < a ∨ (a' = a ∧ c' < c)
            · rw [if_pos q, if_pos (by omega)]
            · rw [if_neg q, if_neg (by omega)]
        · rw [nc_up_na (by omega), hF a' k' h']
        · have r1 : m (M + 27 + 1 + a) k = nI (fwS (s_wn S) 100000 k a k) := by
            rw [hI a k ha hk, fw_row]
            split <;> rfl
          have r2 : m (M + 27 + 1 + k) c = nI (fwS (s_wn S) 100000 k k c) := by
            rw [hI k c hk hc, fw_col]
            split <;> rfl
          have r3 : m (M + 27 + 1 + a) c = nI (fwS (s_wn S) 100000 k a c) := by
            rw [hI a c ha hc, if_neg (by omega)]
          have l1 := hle k a k
          have l2 := hle k k c
          have l3 := hle k a c
          unfold B_X8_findFar_95
          simp only [nc_let_eq]
          rw [hp5 m hF, if_neg (nI_ge hc (by omega)), nc_at_nI (by omega) (by omega), nc_at_nI (by omega) (by omega), nc_at_nI (by omega) (by omega), r1, r2, r3, nI_add, nI_1, fw_s]
          by_cases q : fwS (s_wn S) 100000 k a c ≤ fwS (s_wn S) 100000 k a k + fwS (s_wn S) 100000 k k c
          · rw [if_pos (nI_le q (by omega)), Nat.min_eq_left q]
          · rw [if_neg (nI_ge (by omega) (by omega)), Nat.min_eq_right (by omega)]) (fun rc m ⟨_, hF⟩ => by
        unfold B_X8_findFar_95
        simp only [nc_let_eq]
        rw [hp5 m hF, if_pos (nI_le (Nat.le_refl _) (by omega)), nI_1]) (Nat.zero_le _) (by omega) ⟨fun a' c ha' hc => by
          rw [h0 a' c ha' hc]
          by_cases q : a' < a
          · rw [if_pos q, if_pos (Or.inl q)]
          · rw [if_neg q, if_neg (by omega)], hf⟩
    refine ⟨m1, ⟨fun a' c ha' hc => ?_, h1.2⟩, e1⟩
    rw [h1.1 a' c ha' hc]
    by_cases q : a' < a + 1
    · rw [if_pos q, if_pos (by omega)]
    · rw [if_neg q, if_neg (by omega)]
  -- a round
  have rnd : ∀ (k : Nat) (m0 : nc_Mem) (rc7 : Int32 → nc_Mem → Option nc_Mem), k < pl → (∀ a c, a < pl → c < pl → m0 (M + 27 + 1 + a) c = nI (fwS (s_wn S) 100000 k a c)) → (∀ a k, ¬ (M + 28 ≤ a ∧ a < M + 35) → m0 a k = mi a k) → ∃ m1, ((∀ a c, a < pl → c < pl → m1 (M + 27 + 1 + a) c = nI (fwS (s_wn S) 100000 (k + 1) a c)) ∧ (∀ a k, ¬ (M + 28 ≤ a ∧ a < M + 35) → m1 a k = mi a k)) ∧ nc_loop (fun _ _ => none) (B_X8_findFar_85 M (nI k) rc7) 200 0 m0 = rc7 (nI (k + 1)) m1 := by
    intro k m0 rc7 hk h0 hf
    obtain ⟨m1, h1, e1⟩ := nc_forI (z := fun _ _ => none) (B := B_X8_findFar_85 M (nI k) rc7) (s := 0) (n := 200) (x := m0) (fun a m => (∀ a' c, a' < pl → c < pl → m (M + 27 + 1 + a') c = nI (if a' < a then fwS (s_wn S) 100000 (k + 1) a' c else fwS (s_wn S) 100000 k a' c)) ∧ ∀ a k, ¬ (M + 28 ≤ a ∧ a < M + 35) → m a k = mi a k) pl (fun m => rc7 (nI (k + 1)) m) (fun rc a m _ ha ⟨hI, hF⟩ => by
        obtain ⟨m1, h1, e1⟩ := row k a m rc hk ha hI hF
        refine ⟨m1, h1, ?_⟩
        unfold B_X8_findFar_85
        rw [hp5 m hF, if_neg (nI_ge ha (by omega))]
        exact e1) (fun rc m ⟨_, hF⟩ => by
        unfold B_X8_findFar_85
        simp only [nc_let_eq]
        rw [hp5 m hF, if_pos (nI_le (Nat.le_refl _) (by omega)), nI_1]) (Nat.zero_le _) (by omega) ⟨fun a c ha hc => by rw [if_neg (by omega)]; exact h0 a c ha hc, hf⟩
    refine ⟨m1, ⟨fun a c ha hc => ?_, h1.2⟩, e1⟩
    rw [h1.1 a c ha hc, if_pos ha]
  -- all rounds
  have rnds : ∀ m0 : nc_Mem, (∀ a c, a < pl → c < pl → m0 (M + 27 + 1 + a) c = nI (fwS (s_wn S) 100000 0 a c)) → (∀ a k, ¬ (M + 28 ≤ a ∧ a < M + 35) → m0 a k = mi a k) → ∃ m1, ((∀ a c, a < pl → c < pl → m1 (M + 27 + 1 + a) c = nI (fwS (s_wn S) 100000 pl a c)) ∧ (∀ a k, ¬ (M + 28 ≤ a ∧ a < M + 35) → m1 a k = mi a k)) ∧ nc_loop (fun _ _ => none) (B_X8_findFar_75 M) 200 0 m0 = some m1 := by
    intro m0 h0 hf
    exact nc_forI (z := fun _ _ => none) (B := B_X8_findFar_75 M) (s := 0) (n := 200) (x := m0) (fun k m => (∀ a c, a < pl → c < pl → m (M + 27 + 1 + a) c = nI (fwS (s_wn S) 100000 k a c)) ∧ ∀ a k, ¬ (M + 28 ≤ a ∧ a < M + 35) → m a k = mi a k) pl some (fun rc k m _ hk ⟨hI, hF⟩ => by
        obtain ⟨m1, h1, e1⟩ := rnd k m rc hk hI hF
        refine ⟨m1, h1, ?_⟩
        unfold B_X8_findFar_75
        rw [hp5 m hF, if_neg (nI_ge hk (by omega))]
        exact e1) (fun rc m ⟨_, hF⟩ => by
        unfold B_X8_findFar_75
        rw [hp5 m hF, if_pos (nI_le (Nat.le_refl _) (by omega))]) (Nat.zero_le _) (by omega) ⟨h0, hf⟩
  -- the beginning
  have beg : ∀ (a : Nat) (m0 : nc_Mem) (rc3 : Int32 → nc_Mem → Option nc_Mem), a < pl → (∀ a' c, a' < pl → c < pl → a' < a → m0 (M + 27 + 1 + a') c = nI (fwS (s_wn S) 100000 0 a' c)) → (∀ a k, ¬ (M + 28 ≤ a ∧ a < M + 35) → m0 a k = mi a k) → ∃ m1, ((∀ a' c, a' < pl → c < pl → a' < a + 1 → m1 (M + 27 + 1 + a') c = nI (fwS (s_wn S) 100000 0 a' c)) ∧ (∀ a k, ¬ (M + 28 ≤ a ∧ a < M + 35) → m1 a k = mi a k)) ∧ nc_loop (fun _ _ => none) (B_X8_findFar_12 M (nI a) rc3) 200 0 m0 = rc3 (nI (a + 1)) m1 := by
    intro a m0 rc3 ha h0 hf
    obtain ⟨m1, h1, e1⟩ := nc_forI (z := fun _ _ => none) (B := B_X8_findFar_12 M (nI a) rc3) (s := 0) (n := 200) (x := m0) (fun i m => (∀ a' c, a' < pl → c < pl → (a' < a ∨ (a' = a ∧ c < i)) → m (M + 27 + 1 + a') c = nI (fwS (s_wn S) 100000 0 a' c)) ∧ ∀ a k, ¬ (M + 28 ≤ a ∧ a < M + 35) → m a k = mi a k) pl (fun m => rc3 (nI (a + 1)) m) (fun rc c m _ hc ⟨hI, hF⟩ => by
        have ew : m (M + 4 + 1 + a) c = nI (s_wn S a c) := by
          rw [hF (M + 4 + 1 + a) c (by omega), vM_w (mi := mi) (m := M) (by omega) (by omega), hS]
          exact s_wn_e hw (by omega) (by omega)
        have hwz := hwl a c
        refine ⟨nc_up m (M + 27 + 1 + a) c (nI (fwS (s_wn S) 100000 0 a c)), ⟨fun a' c' ha' hc' hl' => ?_, fun a' k' h' => ?_⟩, ?_⟩
        · by_cases e : a' = a ∧ c' = c
          · rw [e.1, e.2, nc_up_same]
          · rw [nc_up_ne (by omega), hI a' c' ha' hc' (by omega)]
        · rw [nc_up_na (by omega), hF a' k' h']
        · unfold B_X8_findFar_12
          simp only [nc_let_eq]
          rw [hp5 m hF, if_neg (nI_ge hc (by omega)), nc_at_nI (by omega) (by omega), nc_at_nI (by omega) (by omega), nc_at_nI (by omega) (by omega), nc_at_nI (by omega) (by omega), ew, nI_1]
          rw [show fwS (s_wn S) 100000 0 a c = if a = c then 0 else if s_wn S a c = 0 then 100000 else s_wn S a c from rfl]
          by_cases e1 : a = c
          · rw [if_pos (congrArg nI e1), if_pos e1]
            rfl
          · rw [if_neg (fun z => e1 ((nI_eq (by omega) (by omega)).mp z)), if_neg e1]
            by_cases e0 : s_wn S a c = 0
            · rw [e0, if_pos (show nI 0 ≤ 0 by decide), if_pos rfl]
              rfl
            · rw [if_neg e0, if_neg (show ¬ nI (s_wn S a c) ≤ 0 from nI_ge (a := 0) (by omega) (by omega)), nc_at_nI (by omega) (by omega)]) (fun rc m ⟨_, hF⟩ => by
        unfold B_X8_findFar_12
        simp only [nc_let_eq]
        rw [hp5 m hF, if_pos (nI_le (Nat.le_refl _) (by omega)), nI_1]) (Nat.zero_le _) (by omega) ⟨fun a' c ha' hc h => h0 a' c ha' hc (by omega), hf⟩
    exact ⟨m1, ⟨fun a' c ha' hc h => h1.1 a' c ha' hc (by omega), h1.2⟩, e1⟩
  obtain ⟨m1, h1, e1⟩ := nc_forI (z := fun _ _ => none) (B := B_X8_findFar_2 M) (s := 0) (n := 200) (x := mi) (fun a m => (∀ a' c, a' < pl → c < pl → a' < a → m (M + 27 + 1 + a') c = nI (fwS (s_wn S) 100000 0 a' c)) ∧ ∀ a k, ¬ (M + 28 ≤ a ∧ a < M + 35) → m a k = mi a k) pl (fun m => nc_loop (fun _ _ => none) (B_X8_findFar_75 M) 200 0 m) (fun rc a m _ ha ⟨hI, hF⟩ => by
      obtain ⟨m1, h1, e1⟩ := beg a m rc ha hI hF
      refine ⟨m1, h1, ?_⟩
      unfold B_X8_findFar_2
      rw [hp5 m hF, if_neg (nI_ge ha (by omega))]
      exact e1) (fun rc m ⟨_, hF⟩ => by
      unfold B_X8_findFar_2
      rw [hp5 m hF, if_pos (nI_le (Nat.le_refl _) (by omega))]) (Nat.zero_le _) (by omega) ⟨fun a' c _ _ h => absurd h (Nat.not_lt_zero _), fun _ _ _ => rfl⟩
  obtain ⟨m2, h2, e2⟩ := rnds m1 (fun a c ha hc => h1.1 a c ha hc ha) h1.2
  exact ⟨m2, e1.trans e2, h2.1, h2.2⟩
/-- the two are alike -/
theorem s_DF {S : nc_S} {pl : Nat} (hw' : nc_ww S pl) (h7 : pl ≤ 7) {a c : Nat} (ha : a < pl) (hc : c < pl) : (s_D S a c = s_F S pl a c ∧ s_D S a c ≤ 7680) ∨ (s_D S a c = 1000000 ∧ s_F S pl a c = 100000) := by
  have hw := fun a c ha hc => (hw' a c ha hc).1
  have hwl := s_wn_le hw
  have iso : ∀ q, pl ≤ q → ∀ a, s_wn S a q = 0 ∧ s_wn S q a = 0 := by
    intro q hq a
    have z : ∀ x y, (pl ≤ x ∨ pl ≤ y) → s_wn S x y = 0 := by
      intro x y hxy
      by_cases e : x < 7 ∧ y < 7
      · by_cases e' : s_w S x y = 0
        · unfold s_wn
          rw [if_pos e, e']
          rfl
        · have := (hw' x y e.1 e.2).2 e'
          omega
      · unfold s_wn
        rw [if_neg e]
    exact ⟨z a q (Or.inr hq), z q a (Or.inl hq)⟩
  have t := fw_trim (F := 1000000) (fun a c => Nat.le_trans (hwl a c) (by omega)) iso ha hc (7 - pl)
  rw [show pl + (7 - pl) = 7 by omega] at t
  have p : 2 ^ pl ≤ 2 ^ 7 := Nat.pow_le_pow_right (by omega) h7
  have c := fw_clip (F1 := 1000000) (F2 := 100000) hwl pl (by omega) (by omega) a c
  unfold s_D s_F
  rw [t]
  rcases c with ⟨c1, c2⟩ | ⟨c1, c2⟩
  · exact Or.inl ⟨c1, by omega⟩
  · exact Or.inr ⟨c1, c2⟩
