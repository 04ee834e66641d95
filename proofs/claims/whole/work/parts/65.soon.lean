-- how soon a thing can be where: the pure matter
abbrev nc_Ev : Type := Nat × (Nat → Nat) × (Nat → Nat → Nat) × (Nat → Nat → Nat) × (Nat → Nat → Bool)
def pS (x m : Nat) (l : Bool) (σ : Bool × (Nat → Nat)) : Bool × (Nat → Nat) :=
  (σ.1 || (decide ((if σ.1 = true ∧ m < σ.2 x then m else σ.2 x) ≤ m) && l), fun q => if q = x ∧ σ.1 = true ∧ m < σ.2 x then m else σ.2 q)
def pG (E : nc_Ev) (p i : Nat) (σ : Bool × (Nat → Nat)) : Bool × (Nat → Nat) := pS (E.2.2.1 p i) (E.2.2.2.1 p i) (E.2.2.2.2 p i) σ
def pP (E : nc_Ev) (p : Nat) (s : Nat → Nat) : Nat → Nat := (nc_fo (pG E p) (E.2.1 p) 0 (false, s)).2
def pR (E : nc_Ev) (s : Nat → Nat) : Nat → Nat := nc_fo (pP E) E.1 0 s
def pN (E : nc_Ev) (s : Nat → Nat) : Nat → Nat → Nat
  | 0 => s
  | r + 1 => pR E (pN E s r)
theorem pS_le (x m : Nat) (l : Bool) (σ : Bool × (Nat → Nat)) (q : Nat) : (pS x m l σ).2 q ≤ σ.2 q := by
  show (if q = x ∧ σ.1 = true ∧ m < σ.2 x then m else σ.2 q) ≤ σ.2 q
  split
  · rename_i h
    rw [h.1]
    omega
  · exact Nat.le_refl _
theorem pS_has {x m : Nat} {l : Bool} {σ : Bool × (Nat → Nat)} (h : σ.1 = true) : (pS x m l σ).1 = true := by
  show (σ.1 || _) = true
  rw [h]
  rfl
theorem pS_at {x m : Nat} {l : Bool} {σ : Bool × (Nat → Nat)} (h : σ.1 = true) : (pS x m l σ).2 x ≤ m := by
  show (if x = x ∧ σ.1 = true ∧ m < σ.2 x then m else σ.2 x) ≤ m
  split
  · exact Nat.le_refl _
  · rename_i c
    exact Nat.not_lt.mp (fun z => c ⟨rfl, h, z⟩)
theorem pS_get {x m : Nat} {l : Bool} {σ : Bool × (Nat → Nat)} (h : (pS x m l σ).1 = true) : σ.1 = true ∨ (l = true ∧ (pS x m l σ).2 x ≤ m) := by
  by_cases c : σ.1 = true
  · exact Or.inl c
  · right
    have e : (pS x m l σ).2 x = if σ.1 = true ∧ m < σ.2 x then m else σ.2 x := by
      show (if x = x ∧ σ.1 = true ∧ m < σ.2 x then m else σ.2 x) = _
      simp only [true_and]
    have h' : (σ.1 || (decide ((if σ.1 = true ∧ m < σ.2 x then m else σ.2 x) ≤ m) && l)) = true := h
    rw [Bool.or_eq_true, Bool.and_eq_true, decide_eq_true_eq] at h'
    rcases h' with h' | h'
    · exact absurd h' c
    · exact ⟨h'.2, by rw [e]; exact h'.1⟩
theorem pS_set {x m : Nat} {l : Bool} {σ : Bool × (Nat → Nat)} (h : σ.2 x ≤ m) (hl : l = true) : (pS x m l σ).1 = true := by
  show (σ.1 || (decide ((if σ.1 = true ∧ m < σ.2 x then m else σ.2 x) ≤ m) && l)) = true
  rw [if_neg (by omega), hl, decide_eq_true h]
  simp
section PURE
variable {E : nc_Ev}
theorem pP_le (p : Nat) (s : Nat → Nat) (q : Nat) : pP E p s q ≤ s q :=
  nc_fo_inv (g := pG E p) (fun _ σ => σ.2 q ≤ s q) (E.2.1 p) 0 (false, s) (Nat.le_refl _) (fun i y _ _ h => Nat.le_trans (pS_le _ _ _ y q) h)
theorem pR_le (s : Nat → Nat) (q : Nat) : pR E s q ≤ s q :=
  nc_fo_inv (g := pP E) (fun _ s' => s' q ≤ s q) E.1 0 s (Nat.le_refl _) (fun i y _ _ h => Nat.le_trans (pP_le i y q) h)
theorem pP_go {p i j : Nat} {s : Nat → Nat} (hij : i < j) (hj : j < E.2.1 p) (hs : s (E.2.2.1 p i) ≤ E.2.2.2.1 p i) (hl : E.2.2.2.2 p i = true) : pP E p s (E.2.2.1 p j) ≤ E.2.2.2.1 p j := by
  have := nc_fo_inv (g := pG E p) (fun k σ => (i < k → σ.1 = true) ∧ (j < k → σ.2 (E.2.2.1 p j) ≤ E.2.2.2.1 p j) ∧ σ.2 (E.2.2.1 p i) ≤ E.2.2.2.1 p i) (E.2.1 p) 0 (false, s) ⟨fun h => absurd h (Nat.not_lt_zero _), fun h => absurd h (Nat.not_lt_zero _), hs⟩ (fun k y _ _ ⟨h1, h2, h3⟩ => by
    refine ⟨fun hk => ?_, fun hk => ?_, Nat.le_trans (pS_le _ _ _ y _) h3⟩
    · by_cases c : i = k
      · subst c
        exact pS_set h3 hl
      · exact pS_has (h1 (by omega))
    · by_cases c : j = k
      · subst c
        exact pS_at (h1 hij)
      · exact Nat.le_trans (pS_le _ _ _ y _) (h2 (by omega)))
  exact this.2.1 (by omega)
theorem pP_why {p : Nat} {s : Nat → Nat} {q : Nat} (h : pP E p s q < s q) : ∃ i j, i < j ∧ j < E.2.1 p ∧ q = E.2.2.1 p j ∧ pP E p s q = E.2.2.2.1 p j ∧ E.2.2.2.2 p i = true ∧ pP E p s (E.2.2.1 p i) ≤ E.2.2.2.1 p i := by
  have := nc_fo_inv (g := pG E p) (fun k σ => (σ.1 = true → ∃ i, i < k ∧ E.2.2.2.2 p i = true ∧ σ.2 (E.2.2.1 p i) ≤ E.2.2.2.1 p i) ∧ ∀ q, σ.2 q < s q → ∃ i j, i < j ∧ j < k ∧ q = E.2.2.1 p j ∧ σ.2 q = E.2.2.2.1 p j ∧ E.2.2.2.2 p i = true ∧ σ.2 (E.2.2.1 p i) ≤ E.2.2.2.1 p i) (E.2.1 p) 0 (false, s) ⟨fun h => Bool.noConfusion h, fun q hq => absurd hq (Nat.lt_irrefl _)⟩ (fun k y _ _ ⟨h1, h2⟩ => by
    have le := pS_le (E.2.2.1 p k) (E.2.2.2.1 p k) (E.2.2.2.2 p k) y
    refine ⟨fun hh => ?_, fun q hq => ?_⟩
    · rcases pS_get hh with c | c
      · obtain ⟨i, a, b, d⟩ := h1 c
        exact ⟨i, by omega, b, Nat.le_trans (le _) d⟩
      · exact ⟨k, by omega, c.1, c.2⟩
    · by_cases c : q = E.2.2.1 p k ∧ y.1 = true ∧ E.2.2.2.1 p k < y.2 (E.2.2.1 p k)
      · obtain ⟨i, a, b, d⟩ := h1 c.2.1
        exact ⟨i, k, a, by omega, c.1, if_pos c, b, Nat.le_trans (le _) d⟩
      · have e : (pG E p k y).2 q = y.2 q := if_neg c
        rw [e] at hq ⊢
        obtain ⟨i, j, a1, a2, a3, a4, a5, a6⟩ := h2 q hq
        exact ⟨i, j, a1, by omega, a3, a4, a5, Nat.le_trans (le _) a6⟩)
  obtain ⟨i, j, a1, a2, a3⟩ := this.2 q h
  exact ⟨i, j, a1, by omega, a3⟩
theorem pR_go {p i j : Nat} {s : Nat → Nat} (hp : p < E.1) (hij : i < j) (hj : j < E.2.1 p) (hs : s (E.2.2.1 p i) ≤ E.2.2.2.1 p i) (hl : E.2.2.2.2 p i = true) : pR E s (E.2.2.1 p j) ≤ E.2.2.2.1 p j := by
  have := nc_fo_inv (g := pP E) (fun k s' => s' (E.2.2.1 p i) ≤ E.2.2.2.1 p i ∧ (p < k → s' (E.2.2.1 p j) ≤ E.2.2.2.1 p j)) E.1 0 s ⟨hs, fun h => absurd h (Nat.not_lt_zero _)⟩ (fun k y _ _ ⟨h1, h2⟩ => by
    refine ⟨Nat.le_trans (pP_le k y _) h1, fun hk => ?_⟩
    by_cases c : p = k
    · subst c
      exact pP_go hij hj h1 hl
    · exact Nat.le_trans (pP_le k y _) (h2 (by omega)))
  exact this.2 (by omega)
theorem pR_why {s : Nat → Nat} {q : Nat} (h : pR E s q < s q) : ∃ p i j, p < E.1 ∧ i < j ∧ j < E.2.1 p ∧ q = E.2.2.1 p j ∧ pR E s q = E.2.2.2.1 p j ∧ E.2.2.2.2 p i = true ∧ pR E s (E.2.2.1 p i) ≤ E.2.2.2.1 p i := by
  have := nc_fo_inv (g := pP E) (fun k s' => ∀ q, s' q < s q → ∃ p i j, p < k ∧ i < j ∧ j < E.2.1 p ∧ q = E.2.2.1 p j ∧ s' q = E.2.2.2.1 p j ∧ E.2.2.2.2 p i = true ∧ s' (E.2.2.1 p i) ≤ E.2.2.2.1 p i) E.1 0 s (fun q hq => absurd hq (Nat.lt_irrefl _)) (fun k y _ _ h1 q hq => by
    by_cases c : pP E k y q < y q
    · obtain ⟨i, j, a1, a2, a3, a4, a5, a6⟩ := pP_why c
      exact ⟨k, i, j, by omega, a1, a2, a3, a4, a5, a6⟩
    · have e : pP E k y q = y q := Nat.le_antisymm (pP_le k y q) (Nat.not_lt.mp c)
      rw [e] at hq ⊢
      obtain ⟨p, i, j, a0, a1, a2, a3, a4, a5, a6⟩ := h1 q hq
      exact ⟨p, i, j, by omega, a1, a2, a3, a4, a5, Nat.le_trans (pP_le k y _) a6⟩)
  obtain ⟨p, i, j, a0, a1⟩ := this q h
  exact ⟨p, i, j, by omega, a1⟩
theorem pN_anti (s : Nat → Nat) (q : Nat) : ∀ r d, pN E s (r + d) q ≤ pN E s r q
  | _, 0 => Nat.le_refl _
  | r, d + 1 => Nat.le_trans (pR_le (pN E s (r + d)) q) (pN_anti s q r d)
theorem pN_anti' (s : Nat → Nat) (q : Nat) {r r' : Nat} (h : r ≤ r') : pN E s r' q ≤ pN E s r q := by
  have := pN_anti (E := E) s q r (r' - r)
  rwa [show r + (r' - r) = r' by omega] at this
theorem pN_lim1 (s : Nat → Nat) (q : Nat) : ∀ v r, pN E s r q ≤ v → ∃ R, ∀ r', R ≤ r' → pN E s r' q = pN E s R q := by
  intro v
  induction v with
  | zero =>
    intro r h
    refine ⟨r, fun r' hr => ?_⟩
    have := pN_anti' (E := E) s q hr
    omega
  | succ v ih =>
    intro r h
    by_cases c : ∃ r', r ≤ r' ∧ pN E s r' q ≤ v
    · obtain ⟨r', _, h'⟩ := c
      exact ih r' h'
    · refine ⟨r, fun r' hr => ?_⟩
      have h1 := pN_anti' (E := E) s q hr
      have h2 : ¬ pN E s r' q ≤ v := fun z => c ⟨r', hr, z⟩
      omega
theorem pN_lim (s : Nat → Nat) : ∀ k, ∃ R, ∀ q, q < k → ∀ r', R ≤ r' → pN E s r' q = pN E s R q
  | 0 => ⟨0, fun q h => absurd h (Nat.not_lt_zero _)⟩
  | k + 1 => by
    obtain ⟨R1, h1⟩ := pN_lim s k
    obtain ⟨R2, h2⟩ := pN_lim1 (E := E) s k _ 0 (Nat.le_refl _)
    refine ⟨max R1 R2, fun q hq r' hr => ?_⟩
    by_cases c : q = k
    · subst c
      rw [h2 r' (by omega), h2 (max R1 R2) (by omega)]
    · rw [h1 q (by omega) r' (by omega), h1 q (by omega) (max R1 R2) (by omega)]
/-- a chain of falls: the last one -/
theorem pN_last (s : Nat → Nat) (q : Nat) : ∀ R, pN E s R q < s q → ∃ r, r < R ∧ pN E s (r + 1) q < pN E s r q ∧ pN E s (r + 1) q = pN E s R q
  | 0, h => absurd h (Nat.lt_irrefl _)
  | R + 1, h => by
    by_cases c : pN E s (R + 1) q < pN E s R q
    · exact ⟨R, by omega, c, rfl⟩
    · have e : pN E s (R + 1) q = pN E s R q := Nat.le_antisymm (pR_le _ q) (Nat.not_lt.mp c)
      obtain ⟨r, a, b, d⟩ := pN_last s q R (by omega)
      exact ⟨r, by omega, b, by omega⟩
/-- all is found behind six rounds -/
theorem pN_six (s : Nat → Nat) (hX : ∀ p j, p < E.1 → j < E.2.1 p → E.2.2.1 p j < 7) (hM : ∀ p i j, p < E.1 → i < j → j < E.2.1 p → E.2.2.2.1 p i < E.2.2.2.1 p j) {r : Nat} (hr : 6 ≤ r) : pN E s r = pN E s 6 := by
  obtain ⟨R, hR⟩ := pN_lim (E := E) s 7
  have key : ∀ k q, q < 7 → s_ct (pN E s R) (pN E s R q) 7 ≤ k → pN E s k q ≤ pN E s R q := by
    intro k
    induction k with
    | zero =>
      intro q hq hk
      by_cases c : pN E s R q < s q
      · obtain ⟨r, a, b, d⟩ := pN_last s q R c
        obtain ⟨p, i, j, b0, b1, b2, b3, b4, b5, b6⟩ := pR_why b
        have hx := hX p i b0 (by omega)
        have hm := hM p i j b0 b1 b2
        have b4' : pN E s (r + 1) q = E.2.2.2.1 p j := b4
        have h1 : pN E s R (E.2.2.1 p i) ≤ E.2.2.2.1 p i := Nat.le_trans (pN_anti' s _ (show r + 1 ≤ R by omega)) b6
        have := s_ct_lt (f := pN E s R) (v := pN E s R (E.2.2.1 p i)) (v' := pN E s R q) (q := E.2.2.1 p i) (by omega) (Nat.lt_irrefl _) (by omega) 7 hx
        omega
      · exact Nat.not_lt.mp c
    | succ k ih =>
      intro q hq hk
      by_cases c : pN E s R q < s q
      · obtain ⟨r, a, b, d⟩ := pN_last s q R c
        obtain ⟨p, i, j, b0, b1, b2, b3, b4, b5, b6⟩ := pR_why b
        have hx := hX p i b0 (by omega)
        have hm := hM p i j b0 b1 b2
        have b4' : pN E s (r + 1) q = E.2.2.2.1 p j := b4
        have h1 : pN E s R (E.2.2.1 p i) ≤ E.2.2.2.1 p i := Nat.le_trans (pN_anti' s _ (show r + 1 ≤ R by omega)) b6
        have h2 := s_ct_lt (f := pN E s R) (v := pN E s R (E.2.2.1 p i)) (v' := pN E s R q) (q := E.2.2.1 p i) (by omega) (Nat.lt_irrefl _) (by omega) 7 hx
        have h3 := ih (E.2.2.1 p i) hx (by omega)
        have h4 := pR_go (E := E) (s := pN E s k) b0 b1 b2 (Nat.le_trans h3 h1) b5
        rw [← b3] at h4
        have h5 : pN E s (k + 1) q ≤ E.2.2.2.1 p j := h4
        omega
      · exact Nat.le_trans (pN_anti' s q (Nat.zero_le (k + 1))) (Nat.not_lt.mp c)
  funext q
  by_cases hq : q < 7
  · have h1 : s_ct (pN E s R) (pN E s R q) 7 < 7 := s_ct_n (q := q) (Nat.lt_irrefl _) 7 hq
    have h2 := key 6 q hq (by omega)
    have h3 := pN_anti' (E := E) s q hr
    have h4 : pN E s R q ≤ pN E s r q := by
      have e := hR q hq (max R r) (by omega)
      have := pN_anti' (E := E) s q (show r ≤ max R r by omega)
      omega
    omega
  · have out : ∀ r, pN E s r q = s q := by
      intro r
      induction r with
      | zero => rfl
      | succ r ih =>
        by_cases c : pN E s (r + 1) q < pN E s r q
        · obtain ⟨p, i, j, b0, b1, b2, b3, -⟩ := pR_why c
          have := hX p j b0 b2
          omega
        · rw [← ih]
          exact Nat.le_antisymm (pR_le _ q) (Nat.not_lt.mp c)
    rw [out r, out 6]
end PURE
