/-- the one over whom it comes to a place, and from where -/
def s_op (E : nc_Ev) (s : Nat → Nat) (q : Nat) : Nat := s_fnd (fun p => (s_brg E s p q).isSome) E.1 0
def s_oi (E : nc_Ev) (s : Nat → Nat) (q : Nat) : Nat := (s_brg E s (s_op E s q) q).getD 0
def s_oq (E : nc_Ev) (s : Nat → Nat) (b : Nat) : Nat → Nat
  | 0 => b
  | k + 1 => E.2.2.1 (s_op E s (s_oq E s b k)) (s_oi E s (s_oq E s b k))
def s_oN (E : nc_Ev) (s : Nat → Nat) (a b : Nat) : Nat := s_fnd (fun k => decide (s_oq E s b k = a)) 7 0
section OVQ
variable {E : nc_Ev} {s0 : Nat → Nat} {a b : Nat}
theorem s_op_p {q : Nat} (hI : ∀ p i j, p < E.1 → i < E.2.1 p → j < E.2.1 p → E.2.2.1 p i = E.2.2.1 p j → i = j) (h : pN E s0 6 q < s0 q) : s_op E (pN E s0 6) q < E.1 ∧ s_brg E (pN E s0 6) (s_op E (pN E s0 6) q) q = some (s_oi E (pN E s0 6) q) ∧ ∀ p, p < s_op E (pN E s0 6) q → s_brg E (pN E s0 6) p q = none := by
  obtain ⟨p, i, hp, hb⟩ := s_brg_ex hI h
  obtain ⟨f1, f2, f3, f4⟩ := s_fnd_p (P := fun p => (s_brg E (pN E s0 6) p q).isSome) E.1 0 p (Nat.zero_le _) (by omega) (by simp only [hb]; rfl)
  have e : s_op E (pN E s0 6) q = s_fnd (fun p => (s_brg E (pN E s0 6) p q).isSome) E.1 0 := rfl
  refine ⟨by rw [e]; omega, ?_, fun p' hp' => ?_⟩
  · unfold s_oi
    have f1' : (s_brg E (pN E s0 6) (s_op E (pN E s0 6) q) q).isSome = true := f1
    cases hc : s_brg E (pN E s0 6) (s_op E (pN E s0 6) q) q with
    | some i' => rfl
    | none =>
      rw [hc] at f1'
      exact absurd f1' (by simp)
  · have := f4 p' (Nat.zero_le _) (by rw [← e]; exact hp')
    cases hc : s_brg E (pN E s0 6) p' q with
    | some i' =>
      simp only [hc] at this
      exact absurd rfl this
    | none => rfl
/-- all that is on the way back is found, and ever sooner -/
theorem s_oq_p (hX : ∀ p j, p < E.1 → j < E.2.1 p → E.2.2.1 p j < 7) (hM : ∀ p i j, p < E.1 → i < j → j < E.2.1 p → E.2.2.2.1 p i < E.2.2.2.1 p j) (hI : ∀ p i j, p < E.1 → i < E.2.1 p → j < E.2.1 p → E.2.2.1 p i = E.2.2.1 p j → i = j) (hs : ∀ q, ¬ q = a → s0 q = 100000) (hMb : ∀ p i, p < E.1 → i < E.2.1 p → E.2.2.2.1 p i < 100000) (hb : b < 7) (hf : pN E s0 6 b < 100000) : ∀ k, (∀ j, j < k → ¬ s_oq E (pN E s0 6) b j = a) → s_oq E (pN E s0 6) b k < 7 ∧ pN E s0 6 (s_oq E (pN E s0 6) b k) < 100000 ∧ s_ct (pN E s0 6) (pN E s0 6 (s_oq E (pN E s0 6) b k)) 7 + k < 7
  | 0, _ => ⟨hb, hf, s_ct_n (q := b) (Nat.lt_irrefl _) 7 hb⟩
  | k + 1, h => by
    obtain ⟨c1, c2, c3⟩ := s_oq_p hX hM hI hs hMb hb hf k (fun j hj => h j (by omega))
    have hlt : pN E s0 6 (s_oq E (pN E s0 6) b k) < s0 (s_oq E (pN E s0 6) b k) := by
      rw [hs _ (h k (Nat.lt_succ_self k))]
      exact c2
    obtain ⟨d1, d2, -⟩ := s_op_p hI hlt
    obtain ⟨j, e1, e2, e3, e4, e5⟩ := s_brg_p d2
    have eq : s_oq E (pN E s0 6) b (k + 1) = E.2.2.1 (s_op E (pN E s0 6) (s_oq E (pN E s0 6) b k)) (s_oi E (pN E s0 6) (s_oq E (pN E s0 6) b k)) := rfl
    have m1 := hM _ _ j d1 e2 e1
    have m2 := hMb _ (s_oi E (pN E s0 6) (s_oq E (pN E s0 6) b k)) d1 (by omega)
    have x1 := hX _ (s_oi E (pN E s0 6) (s_oq E (pN E s0 6) b k)) d1 (by omega)
    rw [eq]
    have c4 := s_ct_lt (f := pN E s0 6) (v := pN E s0 6 (E.2.2.1 (s_op E (pN E s0 6) (s_oq E (pN E s0 6) b k)) (s_oi E (pN E s0 6) (s_oq E (pN E s0 6) b k)))) (v' := pN E s0 6 (s_oq E (pN E s0 6) b k)) (q := E.2.2.1 (s_op E (pN E s0 6) (s_oq E (pN E s0 6) b k)) (s_oi E (pN E s0 6) (s_oq E (pN E s0 6) b k))) (by omega) (Nat.lt_irrefl _) (by omega) 7 x1
    exact ⟨x1, by omega, by omega⟩
theorem s_oN_p (hX : ∀ p j, p < E.1 → j < E.2.1 p → E.2.2.1 p j < 7) (hM : ∀ p i j, p < E.1 → i < j → j < E.2.1 p → E.2.2.2.1 p i < E.2.2.2.1 p j) (hI : ∀ p i j, p < E.1 → i < E.2.1 p → j < E.2.1 p → E.2.2.1 p i = E.2.2.1 p j → i = j) (hs : ∀ q, ¬ q = a → s0 q = 100000) (hMb : ∀ p i, p < E.1 → i < E.2.1 p → E.2.2.2.1 p i < 100000) (hb : b < 7) (hf : pN E s0 6 b < 100000) : s_oN E (pN E s0 6) a b < 7 ∧ s_oq E (pN E s0 6) b (s_oN E (pN E s0 6) a b) = a ∧ ∀ j, j < s_oN E (pN E s0 6) a b → ¬ s_oq E (pN E s0 6) b j = a := by
  have ex : ∃ q, q < 7 ∧ s_oq E (pN E s0 6) b q = a := Classical.byContradiction (fun c => by
    have := (s_oq_p hX hM hI hs hMb hb hf 7 (fun j hj e => c ⟨j, hj, e⟩)).2.2
    omega)
  obtain ⟨q, hq, eq⟩ := ex
  obtain ⟨f1, f2, f3, f4⟩ := s_fnd_p (P := fun k => decide (s_oq E (pN E s0 6) b k = a)) 7 0 q (Nat.zero_le _) (by omega) (by simp only [decide_eq_true_eq]; exact eq)
  simp only [decide_eq_true_eq] at f1 f4
  have e : s_oN E (pN E s0 6) a b = s_fnd (fun k => decide (s_oq E (pN E s0 6) b k = a)) 7 0 := rfl
  rw [e]
  exact ⟨by omega, f1, fun j hj => f4 j (Nat.zero_le _) hj⟩
end OVQ
