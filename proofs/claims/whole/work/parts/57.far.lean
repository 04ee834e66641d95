-- least minutes
def fwS (w : Nat → Nat → Nat) (F : Nat) : Nat → Nat → Nat → Nat
  | 0, a, c => if a = c then 0 else if w a c = 0 then F else w a c
  | k + 1, a, c => min (fwS w F k a c) (fwS w F k a k + fwS w F k k c)
theorem fw_s (w : Nat → Nat → Nat) (F k a c : Nat) : fwS w F (k + 1) a c = min (fwS w F k a c) (fwS w F k a k + fwS w F k k c) := rfl
theorem fw_self (w : Nat → Nat → Nat) (F a : Nat) : ∀ k, fwS w F k a a = 0
  | 0 => if_pos rfl
  | k + 1 => by rw [fw_s, fw_self w F a k]; omega
theorem fw_le {w : Nat → Nat → Nat} {F : Nat} (hw : ∀ a c, w a c ≤ F) : ∀ k a c, fwS w F k a c ≤ F
  | 0, a, c => by
    have := hw a c
    unfold fwS
    split
    · omega
    · split <;> omega
  | k + 1, a, c => by
    have := fw_le hw k a c
    rw [fw_s]; omega
theorem fw_row (w : Nat → Nat → Nat) (F k a : Nat) : fwS w F (k + 1) a k = fwS w F k a k := by
  rw [fw_s, fw_self]; omega
theorem fw_col (w : Nat → Nat → Nat) (F k c : Nat) : fwS w F (k + 1) k c = fwS w F k k c := by
  rw [fw_s, fw_self]; omega
theorem fw_tri (w : Nat → Nat → Nat) (F : Nat) : ∀ k b a c, b < k → fwS w F k a c ≤ fwS w F k a b + fwS w F k b c
  | 0, b, a, c, h => absurd h (Nat.not_lt_zero _)
  | k + 1, b, a, c, h => by
    by_cases e : b = k
    · subst e
      rw [fw_row, fw_col, fw_s]
      omega
    · have hb : b < k := by omega
      have h1 := fw_tri w F k b a c hb
      have h2 := fw_tri w F k b k c hb
      have h3 := fw_tri w F k b a k hb
      rw [fw_s, fw_s, fw_s]
      omega
theorem fw_mono (w : Nat → Nat → Nat) (F a c : Nat) : ∀ k j, fwS w F (k + j) a c ≤ fwS w F k a c
  | _, 0 => Nat.le_refl _
  | k, j + 1 => by
    have := fw_mono w F a c k j
    rw [← Nat.add_assoc, fw_s]
    omega
theorem fw_mono' (w : Nat → Nat → Nat) (F a c : Nat) {k N : Nat} (h : k ≤ N) : fwS w F N a c ≤ fwS w F k a c := by
  have := fw_mono w F a c k (N - k)
  rwa [show k + (N - k) = N by omega] at this
theorem fw_next {w : Nat → Nat → Nat} {F N : Nat} (hw : ∀ a c, w a c ≤ F) : ∀ k, k ≤ N → ∀ a c, ¬ a = c → fwS w F k a c < F → ∃ b, ¬ w a b = 0 ∧ w a b + fwS w F N b c ≤ fwS w F k a c
  | 0, _, a, c, hac, h => by
    unfold fwS at h
    rw [if_neg hac] at h
    by_cases e : w a c = 0
    · rw [if_pos e] at h
      omega
    · refine ⟨c, e, ?_⟩
      rw [fw_self, show fwS w F 0 a c = if a = c then 0 else if w a c = 0 then F else w a c from rfl, if_neg hac, if_neg e]
      omega
  | k + 1, hk, a, c, hac, h => by
    rw [fw_s] at h ⊢
    by_cases q : fwS w F k a c ≤ fwS w F k a k + fwS w F k k c
    · obtain ⟨b, hb, h'⟩ := fw_next (N := N) hw k (by omega) a c hac (by omega)
      exact ⟨b, hb, by omega⟩
    · by_cases e : a = k
      · subst e
        rw [fw_self] at q
        omega
      · obtain ⟨b, hb, h'⟩ := fw_next (N := N) hw k (by omega) a k e (by omega)
        have h1 := fw_tri w F N k b c (by omega)
        have h2 := fw_mono' w F k c (show k ≤ N by omega)
        exact ⟨b, hb, by omega⟩
theorem fw_edge {w : Nat → Nat → Nat} {F N a b c : Nat} (hb : b < N) (hw : ¬ w a b = 0) (hab : ¬ a = b) : fwS w F N a c ≤ w a b + fwS w F N b c := by
  have h1 := fw_tri w F N b a c hb
  have h2 := fw_mono' w F a b (Nat.zero_le N)
  rw [show fwS w F 0 a b = if a = b then 0 else if w a b = 0 then F else w a b from rfl, if_neg hab, if_neg hw] at h2
  omega
theorem fw_iso {w : Nat → Nat → Nat} {F q : Nat} (hw : ∀ a c, w a c ≤ F) (hq : ∀ a, w a q = 0 ∧ w q a = 0) : ∀ j a, ¬ a = q → fwS w F j a q = F ∧ fwS w F j q a = F
  | 0, a, h => by
    rw [show fwS w F 0 a q = if a = q then 0 else if w a q = 0 then F else w a q from rfl, show fwS w F 0 q a = if q = a then 0 else if w q a = 0 then F else w q a from rfl, if_neg h, if_pos (hq a).1, if_neg (fun e => h e.symm), if_pos (hq a).2]
    exact ⟨rfl, rfl⟩
  | j + 1, a, h => by
    have h0 := fw_iso hw hq j a h
    rw [fw_s, fw_s]
    by_cases e : j = q
    · subst e
      omega
    · have h1 := fw_iso hw hq j j e
      omega
theorem fw_trim {w : Nat → Nat → Nat} {F pl : Nat} (hw : ∀ a c, w a c ≤ F) (hq : ∀ q, pl ≤ q → ∀ a, w a q = 0 ∧ w q a = 0) {a c : Nat} (ha : a < pl) (hc : c < pl) : ∀ j, fwS w F (pl + j) a c = fwS w F pl a c
  | 0 => rfl
  | j + 1 => by
    have h0 := fw_trim hw hq ha hc j
    have h1 := (fw_iso hw (hq (pl + j) (by omega)) (pl + j) a (by omega)).1
    have h2 := fw_le hw (pl + j) a c
    rw [← Nat.add_assoc, fw_s]
    omega
theorem fw_clip {w : Nat → Nat → Nat} {F1 F2 : Nat} (hw : ∀ a c, w a c ≤ 60) : ∀ k, 60 * 2 ^ k ≤ F1 → 60 * 2 ^ k ≤ F2 → ∀ a c, (fwS w F1 k a c = fwS w F2 k a c ∧ fwS w F1 k a c ≤ 60 * 2 ^ k) ∨ (fwS w F1 k a c = F1 ∧ fwS w F2 k a c = F2)
  | 0, _, _, a, c => by
    have := hw a c
    rw [show fwS w F1 0 a c = if a = c then 0 else if w a c = 0 then F1 else w a c from rfl, show fwS w F2 0 a c = if a = c then 0 else if w a c = 0 then F2 else w a c from rfl]
    by_cases e : a = c
    · rw [if_pos e, if_pos e]
      exact Or.inl ⟨rfl, by omega⟩
    · rw [if_neg e, if_neg e]
      by_cases e' : w a c = 0
      · rw [if_pos e', if_pos e']
        exact Or.inr ⟨rfl, rfl⟩
      · rw [if_neg e', if_neg e']
        exact Or.inl ⟨rfl, by omega⟩
  | k + 1, h1, h2, a, c => by
    have hp : 2 ^ (k + 1) = 2 * 2 ^ k := Nat.pow_succ'
    rw [hp] at h1 h2 ⊢
    have i1 := fw_clip (F1 := F1) (F2 := F2) hw k (by omega) (by omega) a c
    have i2 := fw_clip (F1 := F1) (F2 := F2) hw k (by omega) (by omega) a k
    have i3 := fw_clip (F1 := F1) (F2 := F2) hw k (by omega) (by omega) k c
    rw [fw_s, fw_s]
    rcases i1 with i1 | i1 <;> rcases i2 with i2 | i2 <;> rcases i3 with i3 | i3 <;> omega
