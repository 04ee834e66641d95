-- one becomes like another
theorem C_cpP {m : nc_Mem} {o r a k : Nat} (h : ¬ o = r) : f_X3_becomeLike m o r a k = if a = o ∧ k < 7 then m r k else m a k := by
  unfold f_X3_becomeLike
  simp only [nc_let_eq, nc_up]
  grind
theorem C_cpT {m : nc_Mem} {o r a k : Nat} (h : ¬ o = r) : f_X4_becomeLike m o r a k = if a = o ∧ k < 10 then m r k else m a k := by
  unfold f_X4_becomeLike
  simp only [nc_let_eq, nc_up]
  grind (splits := 25)
theorem C_become {mi : nc_Mem} {o r : Nat} (hd : o + 17 ≤ r ∨ r + 17 ≤ o) : ∃ m', f_X5_becomeLike mi o r = some m' ∧ vC m' o = vC mi r ∧ (∀ k, k < 49 → m' (o + 4) k = mi (r + 4) k) ∧ ∀ a k, ¬ ((o < a ∧ a < o + 17) ∨ (a = o ∧ 4 ≤ k ∧ k < 8)) → m' a k = mi a k := by
  have things : ∀ (m0 : nc_Mem) (k5 : nc_Mem → Option nc_Mem), ∃ m', (∀ a k, m' a k = if o + 11 ≤ a ∧ a < o + 11 + 6 ∧ k < 10 then m0 (r + 11 + (a - (o + 11))) k else m0 a k) ∧ nc_loop (fun _ _ => none) (B_X5_becomeLike_31 o r k5) 200 0 m0 = k5 m' := by
    intro m0 k5
    exact nc_forI (z := fun _ _ => none) (B := B_X5_becomeLike_31 o r k5) (s := 0) (n := 200) (x := m0) (fun j m => ∀ a k, m a k = if o + 11 ≤ a ∧ a < o + 11 + j ∧ k < 10 then m0 (r + 11 + (a - (o + 11))) k else m0 a k) 6 (fun m => k5 m) (fun rc j m _ hj hI => by
        refine ⟨f_X4_becomeLike m (o + 11 + j) (r + 11 + j), fun a k => ?_, ?_⟩
        · rw [C_cpT (by omega)]
          by_cases c : a = o + 11 + j ∧ k < 10
          · rw [if_pos c, if_pos (by omega), hI, if_neg (by omega), c.1, show r + 11 + (o + 11 + j - (o + 11)) = r + 11 + j by omega]
          · rw [if_neg c, hI]
            by_cases c' : o + 11 ≤ a ∧ a < o + 11 + j ∧ k < 10
            · rw [if_pos c', if_pos (by omega)]
            · rw [if_neg c', if_neg (by omega)]
        · unfold B_X5_becomeLike_31
          simp only [nc_let_eq]
          rw [if_neg (show ¬ 6 ≤ nI j from nI_ge (b := 6) hj (by omega)), nc_at_nI hj (by omega), nI_1]) (fun rc m _ => by
        unfold B_X5_becomeLike_31
        rw [if_pos (show 6 ≤ nI 6 by decide)]) (Nat.zero_le _) (by omega) (fun a k => by rw [if_neg (by omega)])
  obtain ⟨m1, h1, e1⟩ := nc_forI (z := fun _ _ => none) (B := B_X5_becomeLike_2 o r) (s := 0) (n := 200) (x := mi) (fun j m => ∀ a k, m a k = if o + 5 ≤ a ∧ a < o + 5 + j ∧ k < 7 then mi (r + 5 + (a - (o + 5))) k else mi a k) 6 (fun m => nc_loop (fun _ _ => none) (B_X5_becomeLike_31 o r (fun mi6 => nc_let (nc_cp mi6 (r + 3) (o + 3) 49) (fun mi7 => nc_let (nc_cp mi7 (r + 4) (o + 4) 49) (fun mi8 => nc_let (nc_up mi8 o 4 (mi8 r 4)) (fun mi9 => nc_let (nc_up mi9 o 5 (mi9 r 5)) (fun mi10 => nc_let (nc_up mi10 o 6 (mi10 r 6)) (fun mi11 => nc_let (nc_up mi11 o 7 (mi11 r 7)) (fun mi12 => some mi12)))))))) 200 0 m) (fun rc j m _ hj hI => by
      refine ⟨f_X3_becomeLike m (o + 5 + j) (r + 5 + j), fun a k => ?_, ?_⟩
      · rw [C_cpP (by omega)]
        by_cases c : a = o + 5 + j ∧ k < 7
        · rw [if_pos c, if_pos (by omega), hI, if_neg (by omega), c.1, show r + 5 + (o + 5 + j - (o + 5)) = r + 5 + j by omega]
        · rw [if_neg c, hI]
          by_cases c' : o + 5 ≤ a ∧ a < o + 5 + j ∧ k < 7
          · rw [if_pos c', if_pos (by omega)]
          · rw [if_neg c', if_neg (by omega)]
      · unfold B_X5_becomeLike_2
        simp only [nc_let_eq]
        rw [if_neg (show ¬ 6 ≤ nI j from nI_ge (b := 6) hj (by omega)), nc_at_nI hj (by omega), nI_1]) (fun rc m _ => by
      unfold B_X5_becomeLike_2
      rw [if_pos (show 6 ≤ nI 6 by decide)]
      rfl) (Nat.zero_le _) (by omega) (fun a k => by rw [if_neg (by omega)])
  obtain ⟨m2, h2, e2⟩ := things m1 _
  have e3 := e1.trans e2
  simp only [nc_let_eq] at e3
  refine ⟨_, e3, ?_, ?_, ?_⟩
  · have r1 : ∀ a k, ¬ (o ≤ a ∧ a < o + 17) → m2 a k = mi a k := fun a k ha => by rw [h2, if_neg (by omega), h1, if_neg (by omega)]
    simp only [vC, Prod.mk.injEq]
    refine ⟨?_, ?_, ?_, ?_, ?_, ?_, ?_⟩
    · rw [nc_up_ne (by omega), nc_up_ne (by omega), nc_up_ne (by omega), nc_up_same]
      simp only [nc_cp]
      rw [if_neg (by omega), if_neg (by omega), r1 _ _ (by omega)]
    · rw [nc_up_ne (by omega), nc_up_ne (by omega), nc_up_same, nc_up_ne (by omega)]
      simp only [nc_cp]
      rw [if_neg (by omega), if_neg (by omega), r1 _ _ (by omega)]
    · rw [nc_up_ne (by omega), nc_up_same, nc_up_ne (by omega), nc_up_ne (by omega)]
      simp only [nc_cp]
      rw [if_neg (by omega), if_neg (by omega), r1 _ _ (by omega)]
    · rw [nc_up_same, nc_up_ne (by omega), nc_up_ne (by omega), nc_up_ne (by omega)]
      simp only [nc_cp]
      rw [if_neg (by omega), if_neg (by omega), r1 _ _ (by omega)]
    · funext a c
      split
      · rw [nc_up_na (by omega), nc_up_na (by omega), nc_up_na (by omega), nc_up_na (by omega)]
        simp only [nc_cp]
        rw [if_neg (by omega), if_pos ⟨trivial, by omega⟩, r1 _ _ (by omega)]
      · rfl
    · funext p k
      split
      · rw [nc_up_na (by omega), nc_up_na (by omega), nc_up_na (by omega), nc_up_na (by omega)]
        simp only [nc_cp]
        rw [if_neg (by omega), if_neg (by omega), h2, if_neg (by omega), h1, if_pos (by omega), show r + 5 + (o + 5 + p - (o + 5)) = r + 5 + p by omega]
      · rfl
    · funext t k
      split
      · rw [nc_up_na (by omega), nc_up_na (by omega), nc_up_na (by omega), nc_up_na (by omega)]
        simp only [nc_cp]
        rw [if_neg (by omega), if_neg (by omega), h2, if_pos (by omega), h1, if_neg (by omega), show r + 11 + (o + 11 + t - (o + 11)) = r + 11 + t by omega]
      · rfl
  · intro k hk
    rw [nc_up_na (by omega), nc_up_na (by omega), nc_up_na (by omega), nc_up_na (by omega)]
    simp only [nc_cp]
    rw [if_pos ⟨trivial, hk⟩, if_neg (by omega), h2, if_neg (by omega), h1, if_neg (by omega)]
  · intro a k ha
    rw [nc_up_ne (by omega), nc_up_ne (by omega), nc_up_ne (by omega), nc_up_ne (by omega)]
    simp only [nc_cp]
    rw [if_neg (by omega), if_neg (by omega), h2, if_neg (by omega), h1, if_neg (by omega)]
theorem M_copyAll {m : nc_Mem} {r0 r1 N K : Nat} (hN : N < 100) (hK : K < 100) (hd : r0 + N ≤ r1 ∨ r1 + N ≤ r0) : ∃ m', f_X8_copyAll m r0 N K r1 N K = some m' ∧ ∀ a k, m' a k = if r1 + 1 ≤ a ∧ a < r1 + 1 + N ∧ k < K then m (r0 + 1 + (a - (r1 + 1))) k else m a k := by
  have row : ∀ (i : Nat) (m0 : nc_Mem) (rc3 : Int32 → nc_Mem → Option nc_Mem), i < N → (∀ a k, m0 a k = if r1 + 1 ≤ a ∧ a < r1 + 1 + i ∧ k < K then m (r0 + 1 + (a - (r1 + 1))) k else m a k) → ∃ m', (∀ a k, m' a k = if r1 + 1 ≤ a ∧ a < r1 + 1 + (i + 1) ∧ k < K then m (r0 + 1 + (a - (r1 + 1))) k else m a k) ∧ nc_loop (fun _ _ => none) (B_X8_copyAll_10 r0 N K r1 N K (nI i) rc3) 200 0 m0 = rc3 (nI (i + 1)) m' := by
    intro i m0 rc3 hi h0
    obtain ⟨m', h', e'⟩ := nc_forI (z := fun _ _ => none) (B := B_X8_copyAll_10 r0 N K r1 N K (nI i) rc3) (s := 0) (n := 200) (x := m0) (fun j m' => ∀ a k, m' a k = if (r1 + 1 ≤ a ∧ a < r1 + 1 + i ∧ k < K) ∨ (a = r1 + 1 + i ∧ k < j) then m (r0 + 1 + (a - (r1 + 1))) k else m a k) K (fun m' => rc3 (nI (i + 1)) m') (fun rc j m' _ hj hI => by
        refine ⟨nc_up m' (r1 + 1 + i) j (m' (r0 + 1 + i) j), fun a k => ?_, ?_⟩
        · by_cases c : a = r1 + 1 + i ∧ k = j
          · rw [c.1, c.2, nc_up_same, hI, if_neg (by omega), if_pos (by omega), show r0 + 1 + (r1 + 1 + i - (r1 + 1)) = r0 + 1 + i by omega]
          · rw [nc_up_ne c, hI]
            by_cases c' : (r1 + 1 ≤ a ∧ a < r1 + 1 + i ∧ k < K) ∨ (a = r1 + 1 + i ∧ k < j)
            · rw [if_pos c', if_pos (by omega)]
            · rw [if_neg c', if_neg (by omega)]
        · unfold B_X8_copyAll_10
          simp only [nc_let_eq]
          rw [nc_at_nI hi (by omega), if_neg (show ¬ Int32.ofNat K ≤ nI j from nI_ge (b := K) hj (by omega)), nc_at_nI hi (by omega), nc_at_nI hj (by omega), nc_at_nI hj (by omega), nI_1]) (fun rc m' _ => by
        unfold B_X8_copyAll_10
        simp only [nc_let_eq]
        rw [nc_at_nI hi (by omega), if_pos (show Int32.ofNat K ≤ nI K from nI_le (a := K) (Nat.le_refl _) (by omega)), nI_1]) (Nat.zero_le _) (by omega) (fun a k => by
        rw [h0]
        by_cases c : r1 + 1 ≤ a ∧ a < r1 + 1 + i ∧ k < K
        · rw [if_pos c, if_pos (Or.inl c)]
        · rw [if_neg c, if_neg (by omega)])
    refine ⟨m', fun a k => ?_, e'⟩
    rw [h']
    by_cases c : r1 + 1 ≤ a ∧ a < r1 + 1 + (i + 1) ∧ k < K
    · rw [if_pos c, if_pos (by omega)]
    · rw [if_neg c, if_neg (by omega)]
  obtain ⟨m', h', e'⟩ := nc_forI (z := fun _ _ => none) (B := B_X8_copyAll_2 r0 N K r1 N K) (s := 0) (n := 200) (x := m) (fun i m' => ∀ a k, m' a k = if r1 + 1 ≤ a ∧ a < r1 + 1 + i ∧ k < K then m (r0 + 1 + (a - (r1 + 1))) k else m a k) N some (fun rc i m' _ hi hI => by
      obtain ⟨m2, h2, e2⟩ := row i m' rc hi hI
      refine ⟨m2, h2, ?_⟩
      unfold B_X8_copyAll_2
      rw [if_neg (show ¬ Int32.ofNat N ≤ nI i from nI_ge (b := N) hi (by omega))]
      exact e2) (fun rc m' _ => by
      unfold B_X8_copyAll_2
      rw [if_pos (show Int32.ofNat N ≤ nI N from nI_le (a := N) (Nat.le_refl _) (by omega))]) (Nat.zero_le _) (by omega) (fun a k => by rw [if_neg (by omega)])
  exact ⟨m', e', h'⟩
theorem M_takeFrom {mi : nc_Mem} {o r : Nat} (hd : o + 26 ≤ r ∨ r + 26 ≤ o) : ∃ m', f_X8_takeFrom mi o r = some m' ∧ vM m' o = vM mi r ∧ ∀ a k, ¬ ((o + 4 < a ∧ a < o + 26) ∨ (a = o ∧ (k = 5 ∨ k = 7 ∨ k = 9 ∨ k = 11))) → m' a k = mi a k := by
  obtain ⟨q2, e2, h2⟩ := M_copyAll (m := nc_up mi o 5 (mi r 5)) (r0 := r + 4) (r1 := o + 4) (N := 7) (K := 7) (by omega) (by omega) (by omega)
  obtain ⟨q4, e4, h4⟩ := M_copyAll (m := nc_up q2 o 7 (q2 r 7)) (r0 := r + 12) (r1 := o + 12) (N := 6) (K := 7) (by omega) (by omega) (by omega)
  obtain ⟨q6, e6, h6⟩ := M_copyAll (m := nc_up q4 o 9 (q4 r 9)) (r0 := r + 19) (r1 := o + 19) (N := 6) (K := 10) (by omega) (by omega) (by omega)
  have f2 : ∀ a k, ¬ (o + 4 < a ∧ a < o + 26) → ¬ (a = o ∧ k = 5) → q2 a k = mi a k := fun a k h h' => by rw [h2, if_neg (by omega), nc_up_ne h']
  have f4 : ∀ a k, ¬ (o + 12 < a ∧ a < o + 26) → ¬ (a = o ∧ k = 7) → q4 a k = q2 a k := fun a k h h' => by rw [h4, if_neg (by omega), nc_up_ne h']
  have f6 : ∀ a k, ¬ (o + 19 < a ∧ a < o + 26) → ¬ (a = o ∧ k = 9) → q6 a k = q4 a k := fun a k h h' => by rw [h6, if_neg (by omega), nc_up_ne h']
  refine ⟨nc_up q6 o 11 (q6 r 11), ?_, ?_, ?_⟩
  · unfold f_X8_takeFrom
    simp only [nc_let_eq]
    rw [e2]
    simp only [nc_some_bind]
    rw [e4]
    simp only [nc_some_bind]
    rw [e6]
    rfl
  · simp only [vM, Prod.mk.injEq]
    refine ⟨?_, ?_, ?_, ?_, ?_, ?_, ?_⟩
    · rw [nc_up_ne (by omega), f6 _ _ (by omega) (by omega), f4 _ _ (by omega) (by omega), h2, if_neg (by omega), nc_up_same]
    · rw [nc_up_ne (by omega), f6 _ _ (by omega) (by omega), h4, if_neg (by omega), nc_up_same, f2 _ _ (by omega) (by omega)]
    · rw [nc_up_ne (by omega), h6, if_neg (by omega), nc_up_same, f4 _ _ (by omega) (by omega), f2 _ _ (by omega) (by omega)]
    · rw [nc_up_same, f6 _ _ (by omega) (by omega), f4 _ _ (by omega) (by omega), f2 _ _ (by omega) (by omega)]
    · funext a c
      split
      · rw [nc_up_na (by omega), f6 _ _ (by omega) (by omega), f4 _ _ (by omega) (by omega), h2, if_pos (by omega), nc_up_na (by omega), show r + 4 + 1 + (o + 5 + a - (o + 4 + 1)) = r + 5 + a by omega]
      · rfl
    · funext p k
      split
      · rw [nc_up_na (by omega), f6 _ _ (by omega) (by omega), h4, if_pos (by omega), nc_up_na (by omega), show r + 12 + 1 + (o + 13 + p - (o + 12 + 1)) = r + 13 + p by omega, f2 _ _ (by omega) (by omega)]
      · rfl
    · funext t k
      split
      · rw [nc_up_na (by omega), h6, if_pos (by omega), nc_up_na (by omega), show r + 19 + 1 + (o + 20 + t - (o + 19 + 1)) = r + 20 + t by omega, f4 _ _ (by omega) (by omega), f2 _ _ (by omega) (by omega)]
      · rfl
  · intro a k ha
    rw [nc_up_ne (by omega), f6 _ _ (by omega) (by omega), f4 _ _ (by omega) (by omega), f2 _ _ (by omega) (by omega)]
