-- TOWN: statements are heard
theorem nc_mxT (x v T : Int32) : (if x < v then v else x) < T ↔ x < T ∧ v < T := by
  split
  · rename_i h
    exact ⟨fun z => ⟨Int32.lt_trans h z, z⟩, fun z => z.2⟩
  · rename_i h
    exact ⟨fun z => ⟨z, Int32.lt_of_le_of_lt (Int32.not_lt.mp h) z⟩, fun z => z.1⟩
theorem nc_mxT' (x v T : Int32) : (if v ≤ x then x else v) < T ↔ x < T ∧ v < T := by
  split
  · rename_i h
    exact ⟨fun z => ⟨z, Int32.lt_of_le_of_lt h z⟩, fun z => z.1⟩
  · rename_i h
    exact ⟨fun z => ⟨Int32.lt_trans (Int32.not_le.mp h) z, z⟩, fun z => z.2⟩
theorem nc_forT {R : Type} {B : (Int32 → Int32 → Option R) → Int32 → Int32 → Option R} {z : Int32 → Int32 → Option R} (P : Nat → Int32 → Prop) (E : Int32 → Option R) (N : Nat) (hs : ∀ rc x j, j < N → ∃ x', (∀ T, x' < T ↔ x < T ∧ P j T) ∧ B rc x (nI j) = rc x' (nI (j + 1))) (he : ∀ rc x, B rc x (nI N) = E x) {n : Nat} (x : Int32) (hn : N < n) : ∃ x', (∀ T, x' < T ↔ x < T ∧ ∀ j, j < N → P j T) ∧ nc_loop z B n x 0 = E x' := by
  obtain ⟨x', h1, h2⟩ := nc_for2I (z := z) (B := B) (x := x) (fun j y => ∀ T, y < T ↔ x < T ∧ ∀ i, i < j → P i T) E N (fun rc y j hj hI => by
    obtain ⟨y', k1, k2⟩ := hs rc y j hj
    refine ⟨y', fun T => ?_, k2⟩
    rw [k1 T, hI T]
    refine ⟨fun ⟨⟨a, b⟩, c⟩ => ⟨a, fun i hi => ?_⟩, fun ⟨a, b⟩ => ⟨⟨a, fun i hi => b i (by omega)⟩, b j (by omega)⟩⟩
    by_cases e : i = j
    · rw [e]; exact c
    · exact b i (by omega)) (fun rc y _ => he rc y) hn (fun T => ⟨fun h => ⟨h, fun i hi => absurd hi (Nat.not_lt_zero _)⟩, fun h => h.1⟩)
  exact ⟨x', h1, h2⟩
def s_hiP (S : nc_S) (ps th : Nat) (T : Int32) : Prop := (∀ a c, a < 7 → c < 7 → ¬ s_w S a c ≤ 0 → nI a < T) ∧ (∀ p, p < ps → s_P S p 0 < T ∧ s_P S p 1 < T ∧ s_P S p 5 < T) ∧ (∀ t, t < th → s_T S t 2 < T ∧ s_T S t 3 < T ∧ (¬ 10 ≤ s_T S t 7 → s_T S t 7 < T))
section HI
variable {S : nc_S} {n pl ps th b M : Nat} {m : nc_Mem}
theorem C_high (hv : vC m b = S) (ws : s_wf S n pl ps th) : ∃ h, f_X5_highestPlace m b = some h ∧ ∀ T, h < T ↔ -1 < T ∧ s_hiP S ps th T := by
  obtain ⟨w1, w2, w3, w4, w5, w6, w7, w8, w9, w10, w11⟩ := id ws
  have rP : ∀ p k, p < 6 → k < 7 → m (b + 5 + p) k = s_P S p k := fun p k hp hk => (vC_P hp hk).trans (by rw [hv])
  have rT : ∀ p k, p < 6 → k < 10 → m (b + 11 + p) k = s_T S p k := fun p k hp hk => (vC_T hp hk).trans (by rw [hv])
  have hps : m b 5 = nI ps := (congrArg s_ps hv).trans w4
  have hth : m b 6 = nI th := (congrArg s_th hv).trans w6
  have l3 : ∀ x, ∃ x', (∀ T, x' < T ↔ x < T ∧ ∀ t, t < th → s_T S t 2 < T ∧ s_T S t 3 < T ∧ (¬ 10 ≤ s_T S t 7 → s_T S t 7 < T)) ∧ nc_loop (fun _ _ => none) (B_X5_highestPlace_85 m b) 200 x 0 = some x' := fun x => nc_forT (z := fun _ _ => none) (B := B_X5_highestPlace_85 m b) (fun t T => s_T S t 2 < T ∧ s_T S t 3 < T ∧ (¬ 10 ≤ s_T S t 7 → s_T S t 7 < T)) some th (fun rc x j hj => by
      unfold B_X5_highestPlace_85
      simp only [nc_let_eq]
      rw [hth, if_neg (nI_ge hj (by omega)), nc_at_nI (by omega) (by omega), rT j 2 (by omega) (by omega), rT j 3 (by omega) (by omega), rT j 7 (by omega) (by omega), nI_1]
      by_cases c : 10 ≤ s_T S j 7
      · rw [if_pos c]
        refine ⟨_, fun T => ?_, rfl⟩
        rw [nc_mxT, nc_mxT]
        exact ⟨fun z => ⟨z.1, z.2.1, z.2.2, fun k => absurd c k⟩, fun z => ⟨z.1, z.2.1, z.2.2.1⟩⟩
      · rw [if_neg c]
        refine ⟨_, fun T => ?_, rfl⟩
        rw [nc_mxT, nc_mxT, nc_mxT]
        exact ⟨fun z => ⟨z.1.1, z.1.2.1, z.1.2.2, fun _ => z.2⟩, fun z => ⟨⟨z.1, z.2.1, z.2.2.1⟩, z.2.2.2 c⟩⟩) (fun rc x => by
      unfold B_X5_highestPlace_85
      rw [hth, if_pos (nI_le (Nat.le_refl _) (by omega))]) x (by omega)
  have l2 : ∀ x, ∃ x', (∀ T, x' < T ↔ x < T ∧ ∀ p, p < ps → s_P S p 0 < T ∧ s_P S p 1 < T ∧ s_P S p 5 < T) ∧ nc_loop (fun _ _ => none) (B_X5_highestPlace_39 m b) 200 x 0 = nc_loop (fun _ _ => none) (B_X5_highestPlace_85 m b) 200 x' 0 := fun x => nc_forT (z := fun _ _ => none) (B := B_X5_highestPlace_39 m b) (fun p T => s_P S p 0 < T ∧ s_P S p 1 < T ∧ s_P S p 5 < T) (fun x => nc_loop (fun _ _ => none) (B_X5_highestPlace_85 m b) 200 x 0) ps (fun rc x j hj => by
      unfold B_X5_highestPlace_39
      simp only [nc_let_eq]
      rw [hps, if_neg (nI_ge hj (by omega)), nc_at_nI (by omega) (by omega), rP j 0 (by omega) (by omega), rP j 1 (by omega) (by omega), rP j 5 (by omega) (by omega), nI_1]
      refine ⟨_, fun T => ?_, rfl⟩
      rw [nc_mxT, nc_mxT, nc_mxT]
      exact ⟨fun z => ⟨z.1, z.2.2.1, z.2.2.2, z.2.1⟩, fun z => ⟨z.1, z.2.2.2, z.2.1, z.2.2.1⟩⟩) (fun rc x => by
      unfold B_X5_highestPlace_39
      rw [hps, if_pos (nI_le (Nat.le_refl _) (by omega))]) x (by omega)
  obtain ⟨x1, q1, e1⟩ := nc_forT (z := fun _ _ => none) (B := B_X5_highestPlace_4 m b) (n := 200) (fun i T => ¬ s_w S (i / 7) (i % 7) ≤ 0 → nI (i / 7) < T) (fun x => nc_loop (fun _ _ => none) (B_X5_highestPlace_39 m b) 200 x 0) 49 (fun rc x j hj => by
      have ew : m (b + 3) j = s_w S (j / 7) (j % 7) := by
        have := vC_w (mi := m) (b := b) (a := j / 7) (c := j % 7) (by omega) (by omega)
        rw [hv, show 7 * (j / 7) + j % 7 = j by omega] at this
        exact this
      unfold B_X5_highestPlace_4
      simp only [nc_let_eq]
      rw [if_neg (show ¬ 49 ≤ nI j from nI_ge (b := 49) hj (by omega)), nc_at_nI (by omega) (by omega), ew, nc_div hj, nI_1]
      by_cases c : s_w S (j / 7) (j % 7) ≤ 0
      · rw [if_pos c]
        exact ⟨x, fun T => ⟨fun z => ⟨z, fun k => absurd c k⟩, fun z => z.1⟩, rfl⟩
      · rw [if_neg c]
        refine ⟨_, fun T => ?_, rfl⟩
        rw [nc_mxT]
        exact ⟨fun z => ⟨z.1, fun _ => z.2⟩, fun z => ⟨z.1, z.2 c⟩⟩) (fun rc x => by
      unfold B_X5_highestPlace_4
      rw [if_pos (show 49 ≤ nI 49 by decide)]) (-1) (by omega)
  obtain ⟨x2, q2, e2⟩ := l2 x1
  obtain ⟨x3, q3, e3⟩ := l3 x2
  refine ⟨x3, ?_, fun T => ?_⟩
  · unfold f_X5_highestPlace
    exact e1.trans (e2.trans e3)
  · rw [q3 T, q2 T, q1 T]
    unfold s_hiP
    constructor
    · rintro ⟨⟨⟨a, b⟩, c⟩, d⟩
      refine ⟨a, fun x y hx hy hw => ?_, c, d⟩
      have := b (7 * x + y) (by omega)
      rw [show (7 * x + y) / 7 = x by omega, show (7 * x + y) % 7 = y by omega] at this
      exact this hw
    · rintro ⟨a, b, c, d⟩
      exact ⟨⟨⟨a, fun i hi hw => b _ _ (by omega) (by omega) hw⟩, c⟩, d⟩
theorem M_need (hv : vM m M = S) (ws : s_wf S n pl ps th) : ∃ h, f_X8_placesNeeded m M = some (h + 1) ∧ ∀ T, h < T ↔ 1 < T ∧ s_hiP S ps th T := by
  obtain ⟨w1, w2, w3, w4, w5, w6, w7, w8, w9, w10, w11⟩ := id ws
  have rP : ∀ p k, p < 6 → k < 7 → m (M + 12 + 1 + p) k = s_P S p k := fun p k hp hk => (vM_P hp hk).trans (by rw [hv])
  have rT : ∀ p k, p < 6 → k < 10 → m (M + 19 + 1 + p) k = s_T S p k := fun p k hp hk => (vM_T hp hk).trans (by rw [hv])
  have hps : m M 7 = nI ps := (congrArg s_ps hv).trans w4
  have hth : m M 9 = nI th := (congrArg s_th hv).trans w6
  have l3 : ∀ x, ∃ x', (∀ T, x' < T ↔ x < T ∧ ∀ t, t < th → s_T S t 2 < T ∧ s_T S t 3 < T ∧ (¬ 10 ≤ s_T S t 7 → s_T S t 7 < T)) ∧ nc_loop (fun _ _ => none) (B_X8_placesNeeded_122 m M) 200 x 0 = some (x' + 1) := fun x => nc_forT (z := fun _ _ => none) (B := B_X8_placesNeeded_122 m M) (fun t T => s_T S t 2 < T ∧ s_T S t 3 < T ∧ (¬ 10 ≤ s_T S t 7 → s_T S t 7 < T)) (fun x => some (x + 1)) th (fun rc x j hj => by
      have s : B_X8_placesNeeded_122 m M rc x (nI j) = rc (if 10 ≤ s_T S j 7 then (if s_T S j 3 ≤ (if s_T S j 2 ≤ x then x else s_T S j 2) then (if s_T S j 2 ≤ x then x else s_T S j 2) else s_T S j 3) else (if s_T S j 7 ≤ (if s_T S j 3 ≤ (if s_T S j 2 ≤ x then x else s_T S j 2) then (if s_T S j 2 ≤ x then x else s_T S j 2) else s_T S j 3) then (if s_T S j 3 ≤ (if s_T S j 2 ≤ x then x else s_T S j 2) then (if s_T S j 2 ≤ x then x else s_T S j 2) else s_T S j 3) else s_T S j 7)) (nI (j + 1)) := by
        unfold B_X8_placesNeeded_122
        simp only [nc_let_eq]
        rw [hth, if_neg (nI_ge hj (by omega)), nc_at_nI (by omega) (by omega), rT j 2 (by omega) (by omega), rT j 3 (by omega) (by omega), rT j 7 (by omega) (by omega), nI_1]
        by_cases c1 : s_T S j 2 ≤ x
        · simp only [if_pos c1]
          by_cases c2 : s_T S j 3 ≤ x
          · simp only [if_pos c2]
            split
            · rfl
            · split <;> rfl
          · simp only [if_neg c2]
            split
            · rfl
            · split <;> rfl
        · simp only [if_neg c1]
          by_cases c2 : s_T S j 3 ≤ s_T S j 2
          · simp only [if_pos c2]
            split
            · rfl
            · split <;> rfl
          · simp only [if_neg c2]
            split
            · rfl
            · split <;> rfl
      refine ⟨_, fun T => ?_, s⟩
      by_cases c : 10 ≤ s_T S j 7
      · rw [if_pos c, nc_mxT', nc_mxT']
        exact ⟨fun z => ⟨z.1.1, z.1.2, z.2, fun k => absurd c k⟩, fun z => ⟨⟨z.1, z.2.1⟩, z.2.2.1⟩⟩
      · rw [if_neg c, nc_mxT', nc_mxT', nc_mxT']
        exact ⟨fun z => ⟨z.1.1.1, z.1.1.2, z.1.2, fun _ => z.2⟩, fun z => ⟨⟨⟨z.1, z.2.1⟩, z.2.2.1⟩, z.2.2.2 c⟩⟩) (fun rc x => by
      unfold B_X8_placesNeeded_122
      rw [hth, if_pos (nI_le (Nat.le_refl _) (by omega))]) x (by omega)
  have l2 : ∀ x, ∃ x', (∀ T, x' < T ↔ x < T ∧ ∀ p, p < ps → s_P S p 0 < T ∧ s_P S p 1 < T ∧ s_P S p 5 < T) ∧ nc_loop (fun _ _ => none) (B_X8_placesNeeded_54 m M) 200 x 0 = nc_loop (fun _ _ => none) (B_X8_placesNeeded_122 m M) 200 x' 0 := fun x => nc_forT (z := fun _ _ => none) (B := B_X8_placesNeeded_54 m M) (fun p T => s_P S p 0 < T ∧ s_P S p 1 < T ∧ s_P S p 5 < T) (fun x => nc_loop (fun _ _ => none) (B_X8_placesNeeded_122 m M) 200 x 0) ps (fun rc x j hj => by
      have s : B_X8_placesNeeded_54 m M rc x (nI j) = rc (if s_P S j 5 ≤ (if s_P S j 1 ≤ (if s_P S j 0 ≤ x then x else s_P S j 0) then (if s_P S j 0 ≤ x then x else s_P S j 0) else s_P S j 1) then (if s_P S j 1 ≤ (if s_P S j 0 ≤ x then x else s_P S j 0) then (if s_P S j 0 ≤ x then x else s_P S j 0) else s_P S j 1) else s_P S j 5) (nI (j + 1)) := by
        unfold B_X8_placesNeeded_54
        simp only [nc_let_eq]
        rw [hps, if_neg (nI_ge hj (by omega)), nc_at_nI (by omega) (by omega), rP j 0 (by omega) (by omega), rP j 1 (by omega) (by omega), rP j 5 (by omega) (by omega), nI_1]
        by_cases c1 : s_P S j 0 ≤ x
        · simp only [if_pos c1]
          by_cases c2 : s_P S j 1 ≤ x
          · simp only [if_pos c2]
            split <;> rfl
          · simp only [if_neg c2]
            split <;> rfl
        · simp only [if_neg c1]
          by_cases c2 : s_P S j 1 ≤ s_P S j 0
          · simp only [if_pos c2]
            split <;> rfl
          · simp only [if_neg c2]
            split <;> rfl
      refine ⟨_, fun T => ?_, s⟩
      rw [nc_mxT', nc_mxT', nc_mxT']
      exact ⟨fun z => ⟨z.1.1.1, z.1.1.2, z.1.2, z.2⟩, fun z => ⟨⟨⟨z.1, z.2.1⟩, z.2.2.1⟩, z.2.2.2⟩⟩) (fun rc x => by
      unfold B_X8_placesNeeded_54
      rw [hps, if_pos (nI_le (Nat.le_refl _) (by omega))]) x (by omega)
  obtain ⟨x1, q1, e1⟩ := nc_forT (z := fun _ _ => none) (B := B_X8_placesNeeded_4 m M) (n := 200) (fun a T => ∀ c, c < 7 → ¬ s_w S a c ≤ 0 → nI a < T) (fun x => nc_loop (fun _ _ => none) (B_X8_placesNeeded_54 m M) 200 x 0) 7 (fun rc x a ha => by
      obtain ⟨x', k1, k2⟩ := nc_forT (z := fun _ _ => none) (B := B_X8_placesNeeded_12 m M (nI a) rc) (n := 200) (fun c T => ¬ s_w S a c ≤ 0 → nI a < T) (fun x => rc x (nI (a + 1))) 7 (fun rc' x c hc => by
          have ew : m (M + 4 + 1 + a) c = s_w S a c := (vM_w ha hc).trans (by rw [hv])
          unfold B_X8_placesNeeded_12
          simp only [nc_let_eq]
          rw [if_neg (show ¬ 7 ≤ nI c from nI_ge (b := 7) hc (by omega)), nc_at_nI (by omega) (by omega), nc_at_nI (by omega) (by omega), ew, nI_1]
          by_cases cw : s_w S a c ≤ 0
          · rw [if_pos cw]
            exact ⟨x, fun T => ⟨fun z => ⟨z, fun k => absurd cw k⟩, fun z => z.1⟩, rfl⟩
          · rw [if_neg cw]
            refine ⟨if nI a ≤ x then x else nI a, fun T => ?_, by split <;> rfl⟩
            rw [nc_mxT']
            exact ⟨fun z => ⟨z.1, fun _ => z.2⟩, fun z => ⟨z.1, z.2 cw⟩⟩) (fun rc' x => by
          unfold B_X8_placesNeeded_12
          simp only [nc_let_eq]
          rw [if_pos (show 7 ≤ nI 7 by decide), nI_1]) x (by omega)
      refine ⟨x', k1, ?_⟩
      unfold B_X8_placesNeeded_4
      rw [if_neg (show ¬ 7 ≤ nI a from nI_ge (b := 7) ha (by omega))]
      exact k2) (fun rc x => by
      unfold B_X8_placesNeeded_4
      rw [if_pos (show 7 ≤ nI 7 by decide)]) 1 (by omega)
  obtain ⟨x2, q2, e2⟩ := l2 x1
  obtain ⟨x3, q3, e3⟩ := l3 x2
  refine ⟨x3, ?_, fun T => ?_⟩
  · unfold f_X8_placesNeeded
    exact e1.trans (e2.trans e3)
  · rw [q3 T, q2 T, q1 T]
    unfold s_hiP
    exact ⟨fun ⟨⟨⟨a, b⟩, c⟩, d⟩ => ⟨a, fun x y hx hy hw => b x hx y hy hw, c, d⟩, fun ⟨a, b, c, d⟩ => ⟨⟨⟨a, fun x hx y hy hw => b x y hx hy hw⟩, c⟩, d⟩⟩
end HI
