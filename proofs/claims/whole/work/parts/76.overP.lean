-- over whom: the pure matter
def s_lastI (P : Nat → Bool) : Nat → Option Nat
  | 0 => none
  | j + 1 => if P j = true then some j else s_lastI P j
theorem s_lastI_some {P : Nat → Bool} : ∀ {j i : Nat}, s_lastI P j = some i → i < j ∧ P i = true ∧ ∀ k, i < k → k < j → ¬ P k = true
  | 0, i, h => by simp [s_lastI] at h
  | j + 1, i, h => by
    unfold s_lastI at h
    by_cases c : P j = true
    · rw [if_pos c] at h
      have : j = i := Option.some.inj h
      subst this
      exact ⟨Nat.lt_succ_self _, c, fun k h1 h2 => by omega⟩
    · rw [if_neg c] at h
      obtain ⟨a, b, d⟩ := s_lastI_some h
      refine ⟨by omega, b, fun k h1 h2 => ?_⟩
      by_cases e : k = j
      · rw [e]; exact c
      · exact d k h1 (by omega)
theorem s_lastI_none {P : Nat → Bool} : ∀ {j : Nat}, s_lastI P j = none → ∀ k, k < j → ¬ P k = true
  | 0, _, k, hk => absurd hk (Nat.not_lt_zero _)
  | j + 1, h, k, hk => by
    unfold s_lastI at h
    by_cases c : P j = true
    · rw [if_pos c] at h
      exact absurd h (by simp)
    · rw [if_neg c] at h
      by_cases e : k = j
      · rw [e]; exact c
      · exact s_lastI_none h k (by omega)
/-- from which stop one brings it to a place at just that minute -/
def s_brg (E : nc_Ev) (s : Nat → Nat) (p q : Nat) : Option Nat :=
  if s_fnd (fun j => decide (E.2.2.1 p j = q)) (E.2.1 p) 0 < E.2.1 p ∧ E.2.2.2.1 p (s_fnd (fun j => decide (E.2.2.1 p j = q)) (E.2.1 p) 0) = s q then s_lastI (fun i => decide (s (E.2.2.1 p i) ≤ E.2.2.2.1 p i) && E.2.2.2.2 p i) (s_fnd (fun j => decide (E.2.2.1 p j = q)) (E.2.1 p) 0) else none
section OVP
variable {E : nc_Ev}
/-- if it is somewhere sooner than told, one brings it there -/
theorem s_brg_ex {s0 : Nat → Nat} {q : Nat} (hI : ∀ p i j, p < E.1 → i < E.2.1 p → j < E.2.1 p → E.2.2.1 p i = E.2.2.1 p j → i = j) (h : pN E s0 6 q < s0 q) : ∃ p i, p < E.1 ∧ s_brg E (pN E s0 6) p q = some i := by
  obtain ⟨r, a, b, d⟩ := pN_last s0 q 6 h
  obtain ⟨p, i, j, b0, b1, b2, b3, b4, b5, b6⟩ := pR_why b
  have b4' : pN E s0 (r + 1) q = E.2.2.2.1 p j := b4
  have hu : pN E s0 6 (E.2.2.1 p i) ≤ E.2.2.2.1 p i := Nat.le_trans (pN_anti' s0 _ (show r + 1 ≤ 6 by omega)) b6
  obtain ⟨f1, f2, f3, f4⟩ := s_fnd_p (P := fun j => decide (E.2.2.1 p j = q)) (E.2.1 p) 0 j (Nat.zero_le _) (by omega) (by simp only [decide_eq_true_eq]; exact b3.symm)
  simp only [decide_eq_true_eq] at f1
  have ej : s_fnd (fun j => decide (E.2.2.1 p j = q)) (E.2.1 p) 0 = j := hI p _ j b0 (by omega) b2 (f1.trans b3)
  refine ⟨p, ?_⟩
  cases hb : s_brg E (pN E s0 6) p q with
  | some i' => exact ⟨i', b0, rfl⟩
  | none =>
    unfold s_brg at hb
    rw [ej, if_pos ⟨b2, by rw [← b4', d]⟩] at hb
    have := s_lastI_none hb i b1
    rw [decide_eq_true hu, b5] at this
    exact absurd rfl this
theorem s_brg_p {s : Nat → Nat} {p q i : Nat} (h : s_brg E s p q = some i) : ∃ j, j < E.2.1 p ∧ i < j ∧ E.2.2.2.1 p j = s q ∧ s (E.2.2.1 p i) ≤ E.2.2.2.1 p i ∧ E.2.2.2.2 p i = true := by
  unfold s_brg at h
  by_cases c : s_fnd (fun j => decide (E.2.2.1 p j = q)) (E.2.1 p) 0 < E.2.1 p ∧ E.2.2.2.1 p (s_fnd (fun j => decide (E.2.2.1 p j = q)) (E.2.1 p) 0) = s q
  · rw [if_pos c] at h
    obtain ⟨a, b, -⟩ := s_lastI_some h
    rw [Bool.and_eq_true, decide_eq_true_eq] at b
    exact ⟨_, c.1, a, c.2, b.1, b.2⟩
  · rw [if_neg c] at h
    exact absurd h (by simp)
end OVP
