-- FUNCTIONAL LEVEL: views of a town (places, persons, things, law, ways, persons' and things' rows), of the class's Town at b and of the reference at m
abbrev nc_S : Type := Int32 × Int32 × Int32 × Int32 × (Nat → Nat → Int32) × (Nat → Nat → Int32) × (Nat → Nat → Int32)
abbrev s_pl (S : nc_S) : Int32 := S.1
abbrev s_ps (S : nc_S) : Int32 := S.2.1
abbrev s_th (S : nc_S) : Int32 := S.2.2.1
abbrev s_lw (S : nc_S) : Int32 := S.2.2.2.1
abbrev s_w (S : nc_S) : Nat → Nat → Int32 := S.2.2.2.2.1
abbrev s_P (S : nc_S) : Nat → Nat → Int32 := S.2.2.2.2.2.1
abbrev s_T (S : nc_S) : Nat → Nat → Int32 := S.2.2.2.2.2.2
def vC (mi : nc_Mem) (b : Nat) : nc_S := (mi b 4, mi b 5, mi b 6, mi b 7, (fun a c => if a < 7 ∧ c < 7 then mi (b + 3) (7 * a + c) else 0), (fun p k => if p < 6 ∧ k < 7 then mi (b + 5 + p) k else 0), fun t k => if t < 6 ∧ k < 10 then mi (b + 11 + t) k else 0)
def vM (mi : nc_Mem) (m : Nat) : nc_S := (mi m 5, mi m 7, mi m 9, mi m 11, (fun a c => if a < 7 ∧ c < 7 then mi (m + 5 + a) c else 0), (fun p k => if p < 6 ∧ k < 7 then mi (m + 13 + p) k else 0), fun t k => if t < 6 ∧ k < 10 then mi (m + 20 + t) k else 0)
theorem vC_P {mi : nc_Mem} {b p k : Nat} (hp : p < 6) (hk : k < 7) : mi (b + 5 + p) k = s_P (vC mi b) p k := (if_pos ⟨hp, hk⟩).symm
theorem vC_T {mi : nc_Mem} {b t k : Nat} (ht : t < 6) (hk : k < 10) : mi (b + 11 + t) k = s_T (vC mi b) t k := (if_pos ⟨ht, hk⟩).symm
theorem vC_w {mi : nc_Mem} {b a c : Nat} (ha : a < 7) (hc : c < 7) : mi (b + 3) (7 * a + c) = s_w (vC mi b) a c := (if_pos ⟨ha, hc⟩).symm
theorem vM_P {mi : nc_Mem} {m p k : Nat} (hp : p < 6) (hk : k < 7) : mi (m + 12 + 1 + p) k = s_P (vM mi m) p k := (if_pos (α := Int32) (c := p < 6 ∧ k < 7) ⟨hp, hk⟩).symm
theorem vM_T {mi : nc_Mem} {m t k : Nat} (ht : t < 6) (hk : k < 10) : mi (m + 19 + 1 + t) k = s_T (vM mi m) t k := (if_pos (α := Int32) (c := t < 6 ∧ k < 10) ⟨ht, hk⟩).symm
theorem vM_w {mi : nc_Mem} {m a c : Nat} (ha : a < 7) (hc : c < 7) : mi (m + 4 + 1 + a) c = s_w (vM mi m) a c := (if_pos (α := Int32) (c := a < 7 ∧ c < 7) ⟨ha, hc⟩).symm
/-- a number below a bound -/
def nc_ok (x : Int32) (B : Nat) : Prop := ∃ d : Nat, d < B ∧ x = nI d
/-- how late a clock can be behind n calls -/
def nc_bd (n : Nat) : Nat := 1000 + 100000 * n
def s_okP (S : nc_S) (pl n p : Nat) : Prop := nc_ok (s_P S p 0) pl ∧ nc_ok (s_P S p 1) pl ∧ nc_ok (s_P S p 2) 721 ∧ nc_ok (s_P S p 3) 10 ∧ nc_ok (s_P S p 4) 10 ∧ nc_ok (s_P S p 5) pl ∧ nc_ok (s_P S p 6) (nc_bd n)
def s_okT (S : nc_S) (pl ps n t : Nat) : Prop := nc_ok (s_T S t 0) ps ∧ nc_ok (s_T S t 1) ps ∧ nc_ok (s_T S t 2) pl ∧ nc_ok (s_T S t 3) pl ∧ nc_ok (s_T S t 4) 10 ∧ nc_ok (s_T S t 5) 1000 ∧ nc_ok (s_T S t 6) 100 ∧ (nc_ok (s_T S t 7) pl ∨ ((∃ q : Nat, q < ps ∧ s_T S t 7 = nI (10 + q)) ∧ s_T S t 8 = 0)) ∧ nc_ok (s_T S t 8) (nc_bd n) ∧ (s_T S t 9 = -9 ∨ nc_ok (s_T S t 9) (nc_bd n))
/-- a town as it can be, in numbers pl, ps, th, behind n calls -/
def s_wf (S : nc_S) (n pl ps th : Nat) : Prop := s_pl S = nI pl ∧ 2 ≤ pl ∧ pl ≤ 7 ∧ s_ps S = nI ps ∧ ps ≤ 6 ∧ s_th S = nI th ∧ th ≤ 6 ∧ nc_ok (s_lw S) 5 ∧ (∀ a c, a < 7 → c < 7 → nc_ok (s_w S a c) 61 ∧ (¬ s_w S a c = 0 → a < pl ∧ c < pl ∧ a ≠ c)) ∧ (∀ p, p < ps → s_okP S pl n p) ∧ ∀ t, t < th → s_okT S pl ps n t
-- loops
theorem nc_loop_s {κ : Type} {z : κ} {B : κ → κ} (n : Nat) : nc_loop z B (n + 1) = B (nc_loop z B n) := rfl
theorem nc_loop_ind {κ : Type} {z : κ} {B : κ → κ} (Φ : Nat → κ → Prop) (h : ∀ r k, (∀ r', r' < r → Φ r' k) → Φ r (B k)) : ∀ n r, r < n → Φ r (nc_loop z B n)
  | 0, r, hr => absurd hr (Nat.not_lt_zero r)
  | n + 1, r, hr => h r _ (fun r' h' => nc_loop_ind Φ h n r' (by omega))
def nc_fo {σ : Type} (g : Nat → σ → σ) : Nat → Nat → σ → σ
  | 0, _, x => x
  | r + 1, j, x => nc_fo g r (j + 1) (g j x)
theorem nc_for2 {σ R : Type} {B : (σ → Int32 → Option R) → σ → Int32 → Option R} {z : σ → Int32 → Option R} (g : Nat → σ → σ) (fin : σ → Option R) (th : Nat) (hs : ∀ rc x j, j < th → B rc x (nI j) = rc (g j x) (nI (j + 1))) (he : ∀ rc x, B rc x (nI th) = fin x) {n : Nat} {x : σ} (hn : th < n) : nc_loop z B n x 0 = fin (nc_fo g th 0 x) := by
  have key := nc_loop_ind (z := z) (B := B) (fun r κ => ∀ j x, j + r = th → κ x (nI j) = fin (nc_fo g r j x)) (fun r k ih j x hj => by
    cases r with
    | zero =>
      have : j = th := by omega
      subst this
      exact he k x
    | succ r =>
      rw [hs k x j (by omega), ih r (by omega) (j + 1) _ (by omega)]
      rfl) n th hn 0 x (by omega)
  exact key
theorem nc_for1 {R : Type} {B : (Int32 → Option R) → Int32 → Option R} {z : Int32 → Option R} (fin : Option R) (th : Nat) (hs : ∀ rc j, j < th → B rc (nI j) = rc (nI (j + 1))) (he : ∀ rc, B rc (nI th) = fin) {n : Nat} (hn : th < n) : nc_loop z B n 0 = fin := by
  have key := nc_loop_ind (z := z) (B := B) (fun r κ => ∀ j, j + r = th → κ (nI j) = fin) (fun r k ih j hj => by
    cases r with
    | zero =>
      have : j = th := by omega
      subst this
      exact he k
    | succ r =>
      rw [hs k j (by omega), ih r (by omega) (j + 1) (by omega)]) n th hn 0 (by omega)
  exact key
theorem nc_fo_cg {σ : Type} {g g' : Nat → σ → σ} : ∀ (r j : Nat) (x : σ), (∀ i y, j ≤ i → i < j + r → g i y = g' i y) → nc_fo g r j x = nc_fo g' r j x
  | 0, _, _, _ => rfl
  | r + 1, j, x, h => by
    show nc_fo g r (j + 1) (g j x) = nc_fo g' r (j + 1) (g' j x)
    rw [h j x (Nat.le_refl _) (by omega)]
    exact nc_fo_cg r (j + 1) _ (fun i y h1 h2 => h i y (by omega) (by omega))
theorem nc_fo_inv {σ : Type} {g : Nat → σ → σ} (I : Nat → σ → Prop) : ∀ (r j : Nat) (x : σ), I j x → (∀ i y, j ≤ i → i < j + r → I i y → I (i + 1) (g i y)) → I (j + r) (nc_fo g r j x)
  | 0, _, _, h, _ => h
  | r + 1, j, x, h, hs => by
    have := nc_fo_inv I r (j + 1) (g j x) (hs j x (Nat.le_refl _) (by omega) h) (fun i y h1 h2 => hs i y (by omega) (by omega))
    rw [show j + (r + 1) = j + 1 + r by omega]
    exact this
-- numbers
theorem nI_le' {a b : Nat} (ha : a < 2 ^ 31) (hb : b < 2 ^ 31) : (nI a ≤ nI b) = (a ≤ b) := propext (nI_leI ha hb)
theorem nI_lt' {a b : Nat} (ha : a < 2 ^ 31) (hb : b < 2 ^ 31) : (nI a < nI b) = (a < b) := propext (nI_ltI ha hb)
theorem nI_eq' {a b : Nat} (ha : a < 2 ^ 31) (hb : b < 2 ^ 31) : (nI a = nI b) = (a = b) := propext (nI_eq ha hb)
/-- who is such: a number below a bound, or not -/
theorem nc_among (x : Int32) {n : Nat} (hn : n < 2 ^ 31) : (∃ j : Nat, j < n ∧ x = nI j) ∨ (x < 0 ∨ nI n ≤ x) := by
  rcases pk_ix x hn with h | h | h
  · exact Or.inr (Or.inl h)
  · exact Or.inr (Or.inr h)
  · exact Or.inl h
theorem nc_ok_cl {x : Int32} {B : Nat} (h : nc_ok x B) (hB : B ≤ 2 ^ 31) : x = nI x.toNatClampNeg ∧ x.toNatClampNeg < B := by
  obtain ⟨d, hd, rfl⟩ := h
  rw [nI_clamp (by omega)]
  exact ⟨rfl, hd⟩
theorem nc_ok_mono {x : Int32} {B B' : Nat} (h : nc_ok x B) (hB : B ≤ B') : nc_ok x B' := by
  obtain ⟨d, hd, e⟩ := h
  exact ⟨d, by omega, e⟩
-- memory
theorem nc_up_same {mi : nc_Mem} {a k : Nat} {v : Int32} : nc_up mi a k v a k = v := by simp [nc_up]
theorem nc_up_ne {mi : nc_Mem} {a k a' k' : Nat} {v : Int32} (h : ¬ (a' = a ∧ k' = k)) : nc_up mi a k v a' k' = mi a' k' := by simp [nc_up, h]
theorem nc_up_na {mi : nc_Mem} {a k a' k' : Nat} {v : Int32} (h : a' ≠ a) : nc_up mi a k v a' k' = mi a' k' := by simp [nc_up, h]
theorem nc_let_eq {α β : Type} (e : α) (f : α → β) : nc_let e f = f e := rfl
theorem nc_some_bind {α β : Type} (a : α) (f : α → Option β) : Option.bind (some a) f = f a := rfl
