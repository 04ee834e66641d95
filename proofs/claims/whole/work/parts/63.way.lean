-- ways
def s_fnd (P : Nat → Bool) : Nat → Nat → Nat
  | 0, i => i
  | r + 1, i => if P i = true then i else s_fnd P r (i + 1)
theorem s_fnd_p {P : Nat → Bool} : ∀ r i q, i ≤ q → q < i + r → P q = true → P (s_fnd P r i) = true ∧ i ≤ s_fnd P r i ∧ s_fnd P r i ≤ q ∧ ∀ j, i ≤ j → j < s_fnd P r i → ¬ P j = true
  | 0, i, q, h1, h2, _ => by omega
  | r + 1, i, q, h1, h2, hq => by
    show P (if P i = true then i else s_fnd P r (i + 1)) = true ∧ _
    by_cases c : P i = true
    · have e : s_fnd P (r + 1) i = i := if_pos c
      rw [e, if_pos c]
      exact ⟨c, Nat.le_refl _, h1, fun j a b => by omega⟩
    · have e : s_fnd P (r + 1) i = s_fnd P r (i + 1) := if_neg c
      have hne : ¬ i = q := fun e => c (e ▸ hq)
      obtain ⟨a1, a2, a3, a4⟩ := s_fnd_p r (i + 1) q (by omega) (by omega) hq
      rw [e, if_neg c]
      refine ⟨a1, by omega, a3, fun j b1 b2 => ?_⟩
      by_cases e' : j = i
      · rw [e']; exact c
      · exact a4 j (by omega) b2
theorem nc_fndL {R : Type} {B : (Int32 → Option R) → Int32 → Option R} {z : Int32 → Option R} {P : Nat → Prop} (E : Option R) {q n : Nat} (hs : ∀ rc j, j < q → ¬ P j → B rc (nI j) = rc (nI (j + 1))) (hp : ∀ rc, B rc (nI q) = E) (hn : q < n) (hl : ∀ j, j < q → ¬ P j) : nc_loop z B n 0 = E := nc_for1 E q (fun rc j hj => hs rc j hj (hl j hj)) hp hn
def s_nxt (S : nc_S) (pl g h : Nat) : Nat := s_fnd (fun q => decide (¬ s_wn S h q = 0 ∧ s_wn S h q + s_D S q g = s_D S h g)) pl 0
theorem s_wn_ne {S : nc_S} {pl a c : Nat} (hw : nc_ww S pl) (h : ¬ s_wn S a c = 0) : a < pl ∧ c < pl ∧ a ≠ c := by
  unfold s_wn at h
  by_cases e : a < 7 ∧ c < 7
  · rw [if_pos e] at h
    refine (hw a c e.1 e.2).2 (fun z => h ?_)
    rw [z]
    rfl
  · rw [if_neg e] at h
    exact absurd rfl h
theorem s_nxt_p {S : nc_S} {pl g h : Nat} (hw : nc_ww S pl) (h7 : pl ≤ 7) (hg : ¬ h = g) (hd : s_D S h g < 1000000) : s_nxt S pl g h < pl ∧ ¬ s_wn S h (s_nxt S pl g h) = 0 ∧ s_wn S h (s_nxt S pl g h) + s_D S (s_nxt S pl g h) g = s_D S h g ∧ ∀ j, j < s_nxt S pl g h → ¬ (¬ s_wn S h j = 0 ∧ s_wn S h j + s_D S j g = s_D S h g) := by
  have hwl : ∀ a c, s_wn S a c ≤ 1000000 := fun a c => Nat.le_trans (s_wn_le (fun a c ha hc => (hw a c ha hc).1) a c) (by omega)
  obtain ⟨b, hb, hle⟩ := fw_next (N := 7) hwl 7 (Nat.le_refl _) h g hg hd
  have hb' := s_wn_ne hw hb
  have he : s_D S h g ≤ s_wn S h b + s_D S b g := fw_edge (by omega) hb hb'.2.2
  have hle' : s_wn S h b + s_D S b g ≤ s_D S h g := hle
  obtain ⟨a1, a2, a3, a4⟩ := s_fnd_p (P := fun q => decide (¬ s_wn S h q = 0 ∧ s_wn S h q + s_D S q g = s_D S h g)) pl 0 b (Nat.zero_le _) (by omega) (by simp only [decide_eq_true_eq]; exact ⟨hb, by omega⟩)
  simp only [decide_eq_true_eq] at a1 a4
  have e : s_nxt S pl g h = s_fnd (fun q => decide (¬ s_wn S h q = 0 ∧ s_wn S h q + s_D S q g = s_D S h g)) pl 0 := rfl
  rw [e]
  exact ⟨by omega, a1.1, a1.2, fun j hj => a4 j (Nat.zero_le _) hj⟩
def s_ct (f : Nat → Nat) (v : Nat) : Nat → Nat
  | 0 => 0
  | k + 1 => s_ct f v k + if f k < v then 1 else 0
theorem s_ct_le {f : Nat → Nat} {v v' : Nat} (h : v ≤ v') : ∀ k, s_ct f v k ≤ s_ct f v' k
  | 0 => Nat.le_refl _
  | k + 1 => by
    have := s_ct_le (f := f) h k
    simp only [s_ct]
    split <;> split <;> omega
theorem s_ct_lt {f : Nat → Nat} {v v' q : Nat} (h : v ≤ v') (h1 : ¬ f q < v) (h2 : f q < v') : ∀ k, q < k → s_ct f v k < s_ct f v' k
  | 0, hq => absurd hq (Nat.not_lt_zero _)
  | k + 1, hq => by
    simp only [s_ct]
    by_cases e : q = k
    · subst e
      have := s_ct_le (f := f) h q
      rw [if_neg h1, if_pos h2]
      omega
    · have := s_ct_lt h h1 h2 k (by omega)
      split <;> split <;> omega
theorem s_ct_k (f : Nat → Nat) (v : Nat) : ∀ k, s_ct f v k ≤ k
  | 0 => Nat.le_refl _
  | k + 1 => by
    have := s_ct_k f v k
    simp only [s_ct]
    split <;> omega
theorem s_ct_n {f : Nat → Nat} {v q : Nat} (h : ¬ f q < v) : ∀ k, q < k → s_ct f v k < k
  | 0, hq => absurd hq (Nat.not_lt_zero _)
  | k + 1, hq => by
    simp only [s_ct]
    by_cases e : q = k
    · subst e
      have := s_ct_k f v q
      rw [if_neg h]
      omega
    · have := s_ct_n h k (by omega)
      split <;> omega
/-- where one is on his way, and when -/
def s_st (S : nc_S) (pl g a f : Nat) : Nat → Nat × Nat
  | 0 => (a, f)
  | i + 1 => (s_nxt S pl g (s_st S pl g a f i).1, (s_st S pl g a f i).2 + s_wn S (s_st S pl g a f i).1 (s_nxt S pl g (s_st S pl g a f i).1))
def s_i0 (S : nc_S) (pl g a f : Nat) : Nat := s_fnd (fun i => decide ((s_st S pl g a f i).1 = g)) 7 0
def s_len (S : nc_S) (pl g a f : Nat) : Nat := if s_D S a g < 1000000 then s_i0 S pl g a f + 1 else 0
section WAY
variable {S : nc_S} {pl g a f : Nat}
theorem s_st_p (hw : nc_ww S pl) (h7 : pl ≤ 7) (ha : a < pl) (hd : s_D S a g < 1000000) : ∀ i, (∀ j, j < i → ¬ (s_st S pl g a f j).1 = g) → (s_st S pl g a f i).1 < pl ∧ s_D S (s_st S pl g a f i).1 g < 1000000 ∧ s_ct (fun q => s_D S q g) (s_D S (s_st S pl g a f i).1 g) pl + i < pl ∧ (s_st S pl g a f i).2 + s_D S (s_st S pl g a f i).1 g = f + s_D S a g
  | 0, _ => ⟨ha, hd, s_ct_n (q := a) (Nat.lt_irrefl _) pl ha, rfl⟩
  | i + 1, h => by
    obtain ⟨b1, b2, b3, b4⟩ := s_st_p hw h7 ha hd i (fun j hj => h j (by omega))
    obtain ⟨c1, c2, c3, -⟩ := s_nxt_p hw h7 (h i (Nat.lt_succ_self i)) b2
    have e1 : (s_st S pl g a f (i + 1)).1 = s_nxt S pl g (s_st S pl g a f i).1 := rfl
    have e2 : (s_st S pl g a f (i + 1)).2 = (s_st S pl g a f i).2 + s_wn S (s_st S pl g a f i).1 (s_nxt S pl g (s_st S pl g a f i).1) := rfl
    rw [e1, e2]
    have c4 := s_ct_lt (f := fun q => s_D S q g) (v := s_D S (s_nxt S pl g (s_st S pl g a f i).1) g) (v' := s_D S (s_st S pl g a f i).1 g) (q := s_nxt S pl g (s_st S pl g a f i).1) (by omega) (Nat.lt_irrefl _) (show s_D S (s_nxt S pl g (s_st S pl g a f i).1) g < _ by omega) pl c1
    exact ⟨c1, by omega, by omega, by omega⟩
theorem s_i0_p (hw : nc_ww S pl) (h7 : pl ≤ 7) (ha : a < pl) (hd : s_D S a g < 1000000) : s_i0 S pl g a f < pl ∧ (s_st S pl g a f (s_i0 S pl g a f)).1 = g ∧ ∀ j, j < s_i0 S pl g a f → ¬ (s_st S pl g a f j).1 = g := by
  have ex : ∃ q, q < pl ∧ (s_st S pl g a f q).1 = g := Classical.byContradiction (fun c => by
    have := (s_st_p hw h7 ha hd pl (fun j hj e => c ⟨j, hj, e⟩)).2.2.1
    omega)
  obtain ⟨q, hq, eq⟩ := ex
  obtain ⟨a1, a2, a3, a4⟩ := s_fnd_p (P := fun i => decide ((s_st S pl g a f i).1 = g)) 7 0 q (Nat.zero_le _) (by omega) (by simp only [decide_eq_true_eq]; exact eq)
  simp only [decide_eq_true_eq] at a1 a4
  have e : s_i0 S pl g a f = s_fnd (fun i => decide ((s_st S pl g a f i).1 = g)) 7 0 := rfl
  rw [e]
  exact ⟨by omega, a1, fun j hj => a4 j (Nat.zero_le _) hj⟩
theorem s_len_le (hw : nc_ww S pl) (h7 : pl ≤ 7) (ha : a < pl) : s_len S pl g a f ≤ pl := by
  unfold s_len
  split
  · have := (s_i0_p (f := f) (g := g) hw h7 ha (by assumption)).1
    omega
  · omega
/-- what holds of every stop -/
theorem s_way_p (hw : nc_ww S pl) (h7 : pl ≤ 7) (ha : a < pl) {i : Nat} (hi : i < s_len S pl g a f) : (s_st S pl g a f i).1 < pl ∧ (s_st S pl g a f i).2 + s_D S (s_st S pl g a f i).1 g = f + s_D S a g ∧ s_D S a g < 1000000 := by
  unfold s_len at hi
  by_cases c : s_D S a g < 1000000
  · rw [if_pos c] at hi
    obtain ⟨-, -, h3⟩ := s_i0_p (f := f) hw h7 ha c
    obtain ⟨b1, b2, b3, b4⟩ := s_st_p (f := f) hw h7 ha c i (fun j hj => h3 j (by omega))
    exact ⟨b1, b4, c⟩
  · rw [if_neg c] at hi
    omega
theorem s_way_lt (hw : nc_ww S pl) (h7 : pl ≤ 7) (ha : a < pl) {i : Nat} (hi : i + 1 < s_len S pl g a f) : s_D S (s_st S pl g a f (i + 1)).1 g < s_D S (s_st S pl g a f i).1 g := by
  unfold s_len at hi
  by_cases c : s_D S a g < 1000000
  · rw [if_pos c] at hi
    obtain ⟨-, -, h3⟩ := s_i0_p (f := f) hw h7 ha c
    obtain ⟨b1, b2, b3, b4⟩ := s_st_p (f := f) hw h7 ha c i (fun j hj => h3 j (by omega))
    obtain ⟨c1, c2, c3, -⟩ := s_nxt_p hw h7 (h3 i (by omega)) b2
    show s_D S (s_nxt S pl g (s_st S pl g a f i).1) g < _
    omega
  · rw [if_neg c] at hi
    omega
theorem s_way_lt' (hw : nc_ww S pl) (h7 : pl ≤ 7) (ha : a < pl) {i : Nat} : ∀ d, i + (d + 1) < s_len S pl g a f → s_D S (s_st S pl g a f (i + (d + 1))).1 g < s_D S (s_st S pl g a f i).1 g
  | 0, h => s_way_lt hw h7 ha h
  | d + 1, h => Nat.lt_trans (s_way_lt (i := i + (d + 1)) hw h7 ha h) (s_way_lt' hw h7 ha d (by omega))
theorem s_way_inj (hw : nc_ww S pl) (h7 : pl ≤ 7) (ha : a < pl) {i j : Nat} (hi : i < s_len S pl g a f) (hj : j < s_len S pl g a f) (e : (s_st S pl g a f i).1 = (s_st S pl g a f j).1) : i = j := by
  rcases Nat.lt_trichotomy i j with c | c | c
  · have := s_way_lt' (i := i) hw h7 ha (j - i - 1) (by rw [show i + (j - i - 1 + 1) = j by omega]; exact hj)
    rw [show i + (j - i - 1 + 1) = j by omega, e] at this
    exact absurd this (Nat.lt_irrefl _)
  · exact c
  · have := s_way_lt' (i := j) hw h7 ha (i - j - 1) (by rw [show j + (i - j - 1 + 1) = i by omega]; exact hi)
    rw [show j + (i - j - 1 + 1) = i by omega, e] at this
    exact absurd this (Nat.lt_irrefl _)
/-- minutes grow -/
theorem s_way_mn (hw : nc_ww S pl) (h7 : pl ≤ 7) (ha : a < pl) {i j : Nat} (hij : i < j) (hj : j < s_len S pl g a f) : (s_st S pl g a f i).2 < (s_st S pl g a f j).2 := by
  have h1 := (s_way_p (f := f) (g := g) hw h7 ha (show i < s_len S pl g a f by omega)).2.1
  have h2 := (s_way_p (f := f) (g := g) hw h7 ha hj).2.1
  have := s_way_lt' (i := i) (f := f) (g := g) hw h7 ha (j - i - 1) (by rw [show i + (j - i - 1 + 1) = j by omega]; exact hj)
  rw [show i + (j - i - 1 + 1) = j by omega] at this
  omega
end WAY
