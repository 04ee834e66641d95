-- loops by what holds at each step
theorem nc_forI {σ R : Type} {B : (Int32 → σ → Option R) → Int32 → σ → Option R} {z : Int32 → σ → Option R} (I : Nat → σ → Prop) (N : Nat) (E : σ → Option R) {s n : Nat} {x : σ} (hs : ∀ rc j x, s ≤ j → j < N → I j x → ∃ x', I (j + 1) x' ∧ B rc (nI j) x = rc (nI (j + 1)) x') (he : ∀ rc x, I N x → B rc (nI N) x = E x) (hsN : s ≤ N) (hn : N < n + s) (h0 : I s x) : ∃ x', I N x' ∧ nc_loop z B n (nI s) x = E x' := by
  have key := nc_loop_ind (z := z) (B := B) (fun r κ => ∀ j x, s ≤ j → j + r = N → I j x → ∃ x', I N x' ∧ κ (nI j) x = E x') (fun r k ih j x hsj hj hI => by
    cases r with
    | zero =>
      have : j = N := by omega
      subst this
      exact ⟨x, hI, he k x hI⟩
    | succ r =>
      obtain ⟨x1, h1, e1⟩ := hs k j x hsj (by omega) hI
      obtain ⟨x2, h2, e2⟩ := ih r (by omega) (j + 1) x1 (by omega) (by omega) h1
      exact ⟨x2, h2, e1.trans e2⟩) n (N - s) (by omega) s x (Nat.le_refl _) (by omega) h0
  exact key
theorem nc_forI1 {τ σ R : Type} {B : (τ → Int32 → σ → Option R) → τ → Int32 → σ → Option R} {z : τ → Int32 → σ → Option R} (I : Nat → τ → σ → Prop) (N : Nat) (E : τ → σ → Option R) {s n : Nat} {y : τ} {x : σ} (hs : ∀ rc j y x, s ≤ j → j < N → I j y x → ∃ y' x', I (j + 1) y' x' ∧ B rc y (nI j) x = rc y' (nI (j + 1)) x') (he : ∀ rc y x, I N y x → B rc y (nI N) x = E y x) (hsN : s ≤ N) (hn : N < n + s) (h0 : I s y x) : ∃ y' x', I N y' x' ∧ nc_loop z B n y (nI s) x = E y' x' := by
  have key := nc_loop_ind (z := z) (B := B) (fun r κ => ∀ j y x, s ≤ j → j + r = N → I j y x → ∃ y' x', I N y' x' ∧ κ y (nI j) x = E y' x') (fun r k ih j y x hsj hj hI => by
    cases r with
    | zero =>
      have : j = N := by omega
      subst this
      exact ⟨y, x, hI, he k y x hI⟩
    | succ r =>
      obtain ⟨y1, x1, h1, e1⟩ := hs k j y x hsj (by omega) hI
      obtain ⟨y2, x2, h2, e2⟩ := ih r (by omega) (j + 1) y1 x1 (by omega) (by omega) h1
      exact ⟨y2, x2, h2, e1.trans e2⟩) n (N - s) (by omega) s y x (Nat.le_refl _) (by omega) h0
  exact key
-- numbers of rows and columns
theorem nc_dm : ∀ i : Fin 49, nI i.1 / 7 = nI (i.1 / 7) ∧ nI i.1 - nI i.1 / 7 * 7 = nI (i.1 % 7) := by decide
theorem nc_rc : ∀ a c : Fin 7, nI a.1 * 7 + nI c.1 = nI (7 * a.1 + c.1) := by decide
theorem nc_div {i : Nat} (h : i < 49) : nI i / 7 = nI (i / 7) := (nc_dm ⟨i, h⟩).1
theorem nc_mod {i : Nat} (h : i < 49) : nI i - nI i / 7 * 7 = nI (i % 7) := (nc_dm ⟨i, h⟩).2
theorem nc_rowc {a c : Nat} (ha : a < 7) (hc : c < 7) : nI a * 7 + nI c = nI (7 * a + c) := nc_rc ⟨a, ha⟩ ⟨c, hc⟩
/-- the ways as numbers -/
def s_wn (S : nc_S) (a c : Nat) : Nat := if a < 7 ∧ c < 7 then (s_w S a c).toNatClampNeg else 0
theorem s_wn_e {S : nc_S} (h : ∀ a c, a < 7 → c < 7 → nc_ok (s_w S a c) 61) {a c : Nat} (ha : a < 7) (hc : c < 7) : s_w S a c = nI (s_wn S a c) := by
  unfold s_wn
  rw [if_pos ⟨ha, hc⟩]
  exact (nc_ok_cl (h a c ha hc) (by omega)).1
theorem s_wn_le {S : nc_S} (h : ∀ a c, a < 7 → c < 7 → nc_ok (s_w S a c) 61) (a c : Nat) : s_wn S a c ≤ 60 := by
  unfold s_wn
  split
  · rename_i e
    have := (nc_ok_cl (h a c e.1 e.2) (by omega)).2
    omega
  · omega
def nc_ww (S : nc_S) (pl : Nat) : Prop := ∀ a c, a < 7 → c < 7 → nc_ok (s_w S a c) 61 ∧ (¬ s_w S a c = 0 → a < pl ∧ c < pl ∧ a ≠ c)
/-- the class's least minutes -/
def s_D (S : nc_S) (a c : Nat) : Nat := fwS (s_wn S) 1000000 7 a c
def nc_lst (S : nc_S) (b : Nat) (mi : nc_Mem) : Prop := ∀ a c, a < 7 → c < 7 → mi (b + 4) (7 * a + c) = nI (s_D S a c)
theorem nc_min {u v : Nat} (hu : u < 2 ^ 31) (hv : v < 2 ^ 31) : (if nI u < nI v then nI u else nI v) = nI (min v u) := by
  by_cases h : u < v
  · rw [if_pos (nI_lt h hv), Nat.min_eq_right (by omega)]
  · rw [if_neg (nI_nlt (by omega) hu), Nat.min_eq_left (by omega)]
theorem C_measure {mi : nc_Mem} {b : Nat} {S : nc_S} (hS : vC mi b = S) {pl : Nat} (hw' : nc_ww S pl) : ∃ mi', f_X5_measure mi b = some mi' ∧ nc_lst S b mi' ∧ ∀ a k, ¬ (a = b + 4 ∧ k < 49) → mi' a k = mi a k := by
  have hw := fun a c ha hc => (hw' a c ha hc).1
  have hwl := s_wn_le hw
  have hle : ∀ k a c, fwS (s_wn S) 1000000 k a c ≤ 1000000 := fun k a c => fw_le (fun a c => Nat.le_trans (hwl a c) (by omega)) k a c
  -- a round
  have rnd : ∀ (k : Nat) (m0 : nc_Mem) (rc7 : Int32 → nc_Mem → Option nc_Mem), k < 7 → (∀ a c, a < 7 → c < 7 → m0 (b + 4) (7 * a + c) = nI (fwS (s_wn S) 1000000 k a c)) → (∀ a k, ¬ (a = b + 4 ∧ k < 49) → m0 a k = mi a k) → ∃ m1, ((∀ a c, a < 7 → c < 7 → m1 (b + 4) (7 * a + c) = nI (fwS (s_wn S) 1000000 (k + 1) a c)) ∧ (∀ a k, ¬ (a = b + 4 ∧ k < 49) → m1 a k = mi a k)) ∧ nc_loop (fun _ _ => none) (B_X5_measure_70 b (nI k) rc7) 200 0 m0 = rc7 (nI (k + 1)) m1 := by
    intro k m0 rc7 hk h0 hf
    obtain ⟨m1, h1, e1⟩ := nc_forI (z := fun _ _ => none) (B := B_X5_measure_70 b (nI k) rc7) (s := 0) (n := 200) (x := m0) (fun i m => (∀ a c, a < 7 → c < 7 → m (b + 4) (7 * a + c) = nI (if 7 * a + c < i then fwS (s_wn S) 1000000 (k + 1) a c else fwS (s_wn S) 1000000 k a c)) ∧ ∀ a k, ¬ (a = b + 4 ∧ k < 49) → m a k = mi a k) 49 (fun m => rc7 (nI (k + 1)) m) (fun rc i m _ hi ⟨hI, hF⟩ => by
        obtain ⟨a, c, ha, hc, rfl⟩ : ∃ a c, a < 7 ∧ c < 7 ∧ i = 7 * a + c := ⟨i / 7, i % 7, by omega, by omega, by omega⟩
        have d1 : (7 * a + c) / 7 = a := by omega
        have d2 : (7 * a + c) % 7 = c := by omega
        refine ⟨nc_up m (b + 4) (7 * a + c) (nI (fwS (s_wn S) 1000000 (k + 1) a c)), ⟨fun a' c' ha' hc' => ?_, fun a' k' h' => ?_⟩, ?_⟩
        · by_cases e : 7 * a' + c' = 7 * a + c
          · have : a' = a := by omega
            have : c' = c := by omega
            subst a' c'
            rw [nc_up_same, if_pos (by omega)]
          · rw [nc_up_ne (by omega), hI a' c' ha' hc']
            by_cases q : 7 * a' + c' < 7 * a + c
            · rw [if_pos q, if_pos (by omega)]
            · rw [if_neg q, if_neg (by omega)]
        · rw [nc_up_ne (fun e => h' ⟨e.1, by omega⟩), hF a' k' h']
        · have r1 : m (b + 4) (7 * a + k) = nI (fwS (s_wn S) 1000000 k a k) := by
            rw [hI a k ha hk, fw_row]
            split <;> rfl
          have r2 : m (b + 4) (7 * k + c) = nI (fwS (s_wn S) 1000000 k k c) := by
            rw [hI k c hk hc, fw_col]
            split <;> rfl
          have r3 : m (b + 4) (7 * a + c) = nI (fwS (s_wn S) 1000000 k a c) := by
            rw [hI a c ha hc, if_neg (by omega)]
          have l1 := hle k a k
          have l2 := hle k k c
          have l3 := hle k a c
          unfold B_X5_measure_70
          simp only [nc_let_eq]
          rw [if_neg (show ¬ 49 ≤ nI (7 * a + c) from nI_ge (b := 49) (by omega) (by omega)), nc_mod (by omega), nc_div (by omega), d1, d2, nc_rowc ha hk, nc_rowc hk hc, nc_at_nI (by omega) (by omega), nc_at_nI (by omega) (by omega), nc_at_nI (by omega) (by omega), r1, r2, r3, nI_add, nc_min (by omega) (by omega), nI_1, ← fw_s]) (fun rc m _ => by
        unfold B_X5_measure_70
        simp only [nc_let_eq]
        rw [if_pos (show 49 ≤ nI 49 from by decide), nI_1]) (Nat.zero_le _) (by omega) ⟨fun a c ha hc => by rw [if_neg (by omega)]; exact h0 a c ha hc, hf⟩
    refine ⟨m1, ⟨fun a c ha hc => ?_, h1.2⟩, e1⟩
    rw [h1.1 a c ha hc, if_pos (by omega)]
  -- all rounds
  have rnds : ∀ m0 : nc_Mem, (∀ a c, a < 7 → c < 7 → m0 (b + 4) (7 * a + c) = nI (fwS (s_wn S) 1000000 0 a c)) → (∀ a k, ¬ (a = b + 4 ∧ k < 49) → m0 a k = mi a k) → ∃ m1, ((∀ a c, a < 7 → c < 7 → m1 (b + 4) (7 * a + c) = nI (fwS (s_wn S) 1000000 7 a c)) ∧ (∀ a k, ¬ (a = b + 4 ∧ k < 49) → m1 a k = mi a k)) ∧ nc_loop (fun _ _ => none) (B_X5_measure_62 b) 200 0 m0 = some m1 := by
    intro m0 h0 hf
    exact nc_forI (z := fun _ _ => none) (B := B_X5_measure_62 b) (s := 0) (n := 200) (x := m0) (fun k m => (∀ a c, a < 7 → c < 7 → m (b + 4) (7 * a + c) = nI (fwS (s_wn S) 1000000 k a c)) ∧ ∀ a k, ¬ (a = b + 4 ∧ k < 49) → m a k = mi a k) 7 some (fun rc k m _ hk ⟨hI, hF⟩ => by
        obtain ⟨m1, h1, e1⟩ := rnd k m rc hk hI hF
        refine ⟨m1, h1, ?_⟩
        unfold B_X5_measure_62
        rw [if_neg (show ¬ 7 ≤ nI k from nI_ge (b := 7) hk (by omega))]
        exact e1) (fun rc m _ => by
        unfold B_X5_measure_62
        rw [if_pos (show 7 ≤ nI 7 from by decide)]) (Nat.zero_le _) (by omega) ⟨h0, hf⟩
  -- the beginning
  obtain ⟨m1, h1, e1⟩ := nc_forI (z := fun _ _ => none) (B := B_X5_measure_2 b) (s := 0) (n := 200) (x := mi) (fun i m => (∀ a c, a < 7 → c < 7 → 7 * a + c < i → m (b + 4) (7 * a + c) = nI (fwS (s_wn S) 1000000 0 a c)) ∧ ∀ a k, ¬ (a = b + 4 ∧ k < 49) → m a k = mi a k) 49 (fun m => nc_loop (fun _ _ => none) (B_X5_measure_62 b) 200 0 m) (fun rc i m _ hi ⟨hI, hF⟩ => by
      obtain ⟨a, c, ha, hc, rfl⟩ : ∃ a c, a < 7 ∧ c < 7 ∧ i = 7 * a + c := ⟨i / 7, i % 7, by omega, by omega, by omega⟩
      have d1 : (7 * a + c) / 7 = a := by omega
      have d2 : (7 * a + c) % 7 = c := by omega
      have ew : m (b + 3) (7 * a + c) = nI (s_wn S a c) := by
        rw [hF (b + 3) (7 * a + c) (by omega), vC_w (mi := mi) (b := b) ha hc, hS]
        exact s_wn_e hw ha hc
      have hwz := hwl a c
      refine ⟨nc_up m (b + 4) (7 * a + c) (nI (fwS (s_wn S) 1000000 0 a c)), ⟨fun a' c' ha' hc' hl' => ?_, fun a' k' h' => ?_⟩, ?_⟩
      · by_cases e : 7 * a' + c' = 7 * a + c
        · have : a' = a := by omega
          have : c' = c := by omega
          subst a' c'
          rw [nc_up_same]
        · rw [nc_up_ne (by omega), hI a' c' ha' hc' (by omega)]
      · rw [nc_up_ne (fun e => h' ⟨e.1, by omega⟩), hF a' k' h']
      · unfold B_X5_measure_2
        simp only [nc_let_eq]
        rw [if_neg (show ¬ 49 ≤ nI (7 * a + c) from nI_ge (b := 49) (by omega) (by omega)), nc_mod (by omega), nc_div (by omega), d1, d2, nc_at_nI (by omega) (by omega), nc_at_nI (by omega) (by omega), ew, nI_1]
        rw [show fwS (s_wn S) 1000000 0 a c = if a = c then 0 else if s_wn S a c = 0 then 1000000 else s_wn S a c from rfl]
        by_cases e0 : s_wn S a c = 0
        · rw [e0, if_pos (show nI 0 ≤ 0 by decide), if_pos (show nI 0 ≤ 0 by decide), if_pos rfl]
          by_cases e1 : a = c
          · rw [if_pos (congrArg nI e1), if_pos e1]
            rfl
          · rw [if_neg (fun z => e1 ((nI_eq (by omega) (by omega)).mp z)), if_neg e1]
            rfl
        · have e1 : ¬ a = c := (hw' a c ha hc).2 (by
            rw [s_wn_e hw ha hc]
            exact nI_ne0 (by omega) (by omega)) |>.2.2
          have e2 : ¬ nI (s_wn S a c) ≤ 0 := nI_ge (a := 0) (by omega) (by omega)
          rw [if_neg (fun z => e1 ((nI_eq (by omega) (by omega)).mp z)), if_neg e1, if_neg e0, if_neg e2]) (fun rc m _ => by
      unfold B_X5_measure_2
      rw [if_pos (show 49 ≤ nI 49 from by decide)]) (Nat.zero_le _) (by omega) ⟨fun a c _ _ h => absurd h (Nat.not_lt_zero _), fun _ _ _ => rfl⟩
  obtain ⟨m2, h2, e2⟩ := rnds m1 (fun a c ha hc => h1.1 a c ha hc (by omega)) h1.2
  exact ⟨m2, e1.trans e2, h2.1, h2.2⟩
