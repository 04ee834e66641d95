-- EACH: numbers below and above nothing, and the pure dealing out
def iI (z : Int) : Int32 := Int32.ofInt z
abbrev iB (z : Int) : Prop := -1000000000 ≤ z ∧ z ≤ 1000000000
theorem iI_t {z : Int} (h : iB z) : (iI z).toInt = z := Int32.toInt_ofInt_of_le (by have := h.1; omega) (by have := h.2; omega)
theorem iI_le {x y : Int} (hx : iB x) (hy : iB y) : (iI x ≤ iI y) = (x ≤ y) := by
  rw [Int32.le_iff_toInt_le, iI_t hx, iI_t hy]
theorem iI_lt {x y : Int} (hx : iB x) (hy : iB y) : (iI x < iI y) = (x < y) := by
  rw [Int32.lt_iff_toInt_lt, iI_t hx, iI_t hy]
theorem iI_eq {x y : Int} (hx : iB x) (hy : iB y) : (iI x = iI y) = (x = y) := by
  refine propext ⟨fun h => ?_, fun h => by rw [h]⟩
  have := congrArg Int32.toInt h
  rw [iI_t hx, iI_t hy] at this
  exact this
theorem iI_add (x y : Int) : iI x + iI y = iI (x + y) := (Int32.ofInt_add x y).symm
theorem iI_sub (x y : Int) : iI x - iI y = iI (x - y) := (Int32.ofInt_sub x y).symm
theorem iI_nat (n : Nat) : nI n = iI (n : Int) := Int32.ofInt_eq_ofNat.symm
abbrev nc_De : Type := Nat × (Nat → Nat → Bool) × (Nat → Nat → Int)
def e_fr (T t : Nat) : Bool := decide (((nI T >>> (nI t &&& 31)) &&& 1) = 0)
def e_or (T t : Nat) : Nat := (nI T ||| ((1 : Int32) <<< (nI t &&& 31))).toNatClampNeg
theorem e_or_d : ∀ T : Fin 64, ∀ t : Fin 6, nI T.1 ||| ((1 : Int32) <<< (nI t.1 &&& 31)) = nI (e_or T.1 t.1) ∧ e_or T.1 t.1 < 64 := by decide +kernel
theorem e_or_e {T t : Nat} (hT : T < 64) (ht : t < 6) : nI T ||| ((1 : Int32) <<< (nI t &&& 31)) = nI (e_or T t) := (e_or_d ⟨T, hT⟩ ⟨t, ht⟩).1
theorem e_or_lt {T t : Nat} (hT : T < 64) (ht : t < 6) : e_or T t < 64 := (e_or_d ⟨T, hT⟩ ⟨t, ht⟩).2
def e_mx (c : Nat → Bool) (v : Nat → Int) (t : Nat) (x : Int) : Int := if c t = true ∧ x < v t then v t else x
theorem e_mx_p (c : Nat → Bool) (v : Nat → Int) (x : Int) : ∀ k, x ≤ nc_fo (e_mx c v) k 0 x ∧ (∀ j, j < k → c j = true → v j ≤ nc_fo (e_mx c v) k 0 x) ∧ (nc_fo (e_mx c v) k 0 x = x ∨ ∃ t, t < k ∧ c t = true ∧ v t = nc_fo (e_mx c v) k 0 x)
  | 0 => ⟨Int.le_refl _, fun j h => absurd h (Nat.not_lt_zero _), Or.inl rfl⟩
  | k + 1 => by
    obtain ⟨h1, h2, h3⟩ := e_mx_p c v x k
    rw [nc_fo_succ, Nat.zero_add]
    generalize nc_fo (e_mx c v) k 0 x = y at h1 h2 h3
    unfold e_mx
    split
    · rename_i h
      refine ⟨by omega, fun j hj hc => ?_, Or.inr ⟨k, by omega, h.1, rfl⟩⟩
      by_cases e : j = k
      · rw [e]; exact Int.le_refl _
      · have := h2 j (by omega) hc; omega
    · rename_i h
      refine ⟨h1, fun j hj hc => ?_, h3.imp id (fun ⟨t, a, b, d⟩ => ⟨t, by omega, b, d⟩)⟩
      by_cases e : j = k
      · rw [e] at hc ⊢
        exact Int.not_lt.mp (fun z => h ⟨hc, z⟩)
      · exact h2 j (by omega) hc
def e_V (D : nc_De) : Nat → Nat → Nat → Int
  | 0, _, _ => 0
  | r + 1, p, T => nc_fo (e_mx (fun t => e_fr T t && D.2.1 p t) (fun t => D.2.2 p t + e_V D r (p + 1) (e_or T t))) D.1 0 (e_V D r (p + 1) T)
def e_cd (D : nc_De) (p T t : Nat) : Bool := e_fr T t && D.2.1 p t
def e_vl (D : nc_De) (r p T t : Nat) : Int := D.2.2 p t + e_V D r (p + 1) (e_or T t)
theorem e_V_s (D : nc_De) (r p T : Nat) : e_V D (r + 1) p T = nc_fo (e_mx (e_cd D p T) (e_vl D r p T)) D.1 0 (e_V D r (p + 1) T) := rfl
theorem e_V_p (D : nc_De) (r p T : Nat) : e_V D r (p + 1) T ≤ e_V D (r + 1) p T ∧ (∀ j, j < D.1 → e_cd D p T j = true → e_vl D r p T j ≤ e_V D (r + 1) p T) ∧ (e_V D (r + 1) p T = e_V D r (p + 1) T ∨ ∃ t, t < D.1 ∧ e_cd D p T t = true ∧ e_vl D r p T t = e_V D (r + 1) p T) := by
  rw [e_V_s]
  exact e_mx_p _ _ _ _
def e_bd (D : nc_De) (ps : Nat) : Prop := ∀ p t, p < ps → t < D.1 → D.2.1 p t = true → -30000 ≤ D.2.2 p t ∧ D.2.2 p t ≤ 100
theorem e_V_b {D : nc_De} {ps : Nat} (hb : e_bd D ps) : ∀ r p T, p + r ≤ ps → 0 ≤ e_V D r p T ∧ e_V D r p T ≤ 100 * r
  | 0, _, _, _ => ⟨Int.le_refl _, by show (0 : Int) ≤ _; omega⟩
  | r + 1, p, T, h => by
    obtain ⟨h1, h2, h3⟩ := e_V_p D r p T
    obtain ⟨k1, k2⟩ := e_V_b hb r (p + 1) T (by omega)
    refine ⟨by omega, ?_⟩
    rcases h3 with e | ⟨t, t1, t2, t3⟩
    · rw [e]; omega
    · have b1 := (hb p t (by omega) t1 (by unfold e_cd at t2; revert t2; cases D.2.1 p t <;> simp)).2
      have b2 := (e_V_b hb r (p + 1) (e_or T t) (by omega)).2
      unfold e_vl at t3
      omega
def e_c (D : nc_De) (r p T : Nat) : Option Nat := if e_V D r (p + 1) T = e_V D (r + 1) p T then none else some (s_fnd (fun t => e_cd D p T t && decide (e_vl D r p T t = e_V D (r + 1) p T)) D.1 0)
theorem e_c_p (D : nc_De) (r p T : Nat) : (e_c D r p T = none ∧ e_V D r (p + 1) T = e_V D (r + 1) p T) ∨ (e_V D r (p + 1) T < e_V D (r + 1) p T ∧ ∃ t, t < D.1 ∧ e_c D r p T = some t ∧ e_cd D p T t = true ∧ e_vl D r p T t = e_V D (r + 1) p T ∧ ∀ j, j < t → e_cd D p T j = true → ¬ e_vl D r p T j = e_V D (r + 1) p T) := by
  obtain ⟨h1, h2, h3⟩ := e_V_p D r p T
  by_cases c : e_V D r (p + 1) T = e_V D (r + 1) p T
  · exact Or.inl ⟨by unfold e_c; rw [if_pos c], c⟩
  · refine Or.inr ⟨by omega, ?_⟩
    rcases h3 with e | ⟨t, t1, t2, t3⟩
    · exact absurd e.symm c
    · obtain ⟨q1, q2, q3, q4⟩ := s_fnd_p (P := fun t => e_cd D p T t && decide (e_vl D r p T t = e_V D (r + 1) p T)) D.1 0 t (Nat.zero_le _) (by omega) (by simp only [t2, t3]; simp)
      simp only [Bool.and_eq_true, decide_eq_true_eq] at q1
      refine ⟨_, by omega, by unfold e_c; rw [if_neg c], q1.1, q1.2, fun j hj hc he => ?_⟩
      exact q4 j (Nat.zero_le _) hj (by simp only [hc, he]; simp)
def e_P (D : nc_De) : Nat → Nat → Nat → Nat → Int32
  | 0, _, _, _ => -9
  | r + 1, p, T, i => match e_c D r p T with
    | none => if i = p then -9 else e_P D r (p + 1) T i
    | some t => if i = p then nI t else e_P D r (p + 1) (e_or T t) i
/-- what was found up to a thing -/
def e_sel (c : Nat → Bool) (v : Nat → Int) (pay : Nat → Nat → Int32) (k : Nat) (b1 : Int) (B1 : Nat → Int32) (b : Int) (B : Nat → Int32) : Prop := b1 ≤ b ∧ (∀ j, j < k → c j = true → v j ≤ b) ∧ ((b = b1 ∧ B = B1) ∨ (b1 < b ∧ ∃ t, t < k ∧ c t = true ∧ v t = b ∧ (∀ j, j < t → c j = true → v j < b) ∧ B = pay t))
theorem e_sel_no {c : Nat → Bool} {v : Nat → Int} {pay : Nat → Nat → Int32} {k : Nat} {b1 : Int} {B1 : Nat → Int32} {b : Int} {B : Nat → Int32} (h : e_sel c v pay k b1 B1 b B) (hc : ¬ c k = true) : e_sel c v pay (k + 1) b1 B1 b B := by
  obtain ⟨h1, h2, h3⟩ := h
  refine ⟨h1, fun j hj hcj => ?_, h3.imp id (fun ⟨a, t, x1, x2⟩ => ⟨a, t, by omega, x2⟩)⟩
  by_cases e : j = k
  · rw [e] at hcj; exact absurd hcj hc
  · exact h2 j (by omega) hcj
theorem e_sel_go {c : Nat → Bool} {v : Nat → Int} {pay : Nat → Nat → Int32} {k : Nat} {b1 : Int} {B1 : Nat → Int32} {b : Int} {B : Nat → Int32} (h : e_sel c v pay k b1 B1 b B) (hc : c k = true) : e_sel c v pay (k + 1) b1 B1 (if b < v k then v k else b) (if b < v k then pay k else B) := by
  obtain ⟨h1, h2, h3⟩ := h
  by_cases l : b < v k
  · rw [if_pos l, if_pos l]
    refine ⟨by omega, fun j hj hcj => ?_, Or.inr ⟨by omega, k, by omega, hc, rfl, fun j hj hcj => ?_, rfl⟩⟩
    · by_cases e : j = k
      · rw [e]; exact Int.le_refl _
      · have := h2 j (by omega) hcj; omega
    · have := h2 j hj hcj; omega
  · rw [if_neg l, if_neg l]
    refine ⟨h1, fun j hj hcj => ?_, h3.imp id (fun ⟨a, t, x1, x2⟩ => ⟨a, t, by omega, x2⟩)⟩
    by_cases e : j = k
    · rw [e]; omega
    · exact h2 j (by omega) hcj
theorem e_fin {D : nc_De} {r p T : Nat} {s b0 b1 b : Int} {B0 B1 B payN : Nat → Int32} {pay : Nat → Nat → Int32} (hb1 : b1 = if b0 < s + e_V D r (p + 1) T then s + e_V D r (p + 1) T else b0) (hB1 : B1 = if b0 < s + e_V D r (p + 1) T then payN else B0) (h : e_sel (e_cd D p T) (fun t => s + e_vl D r p T t) pay D.1 b1 B1 b B) : b = (if b0 < s + e_V D (r + 1) p T then s + e_V D (r + 1) p T else b0) ∧ B = if b0 < s + e_V D (r + 1) p T then (match e_c D r p T with | none => payN | some t => pay t) else B0 := by
  obtain ⟨h1, h2, h3⟩ := h
  simp only at h2 h3
  obtain ⟨v1, v2, v3⟩ := e_V_p D r p T
  have up : s + e_V D (r + 1) p T ≤ b := by
    rcases v3 with e | ⟨t, t1, t2, t3⟩
    · rw [e]
      split at hb1 <;> omega
    · have := h2 t t1 t2
      omega
  have lo : b0 ≤ b := by split at hb1 <;> omega
  have at' : b = b0 ∨ b = s + e_V D (r + 1) p T := by
    rcases h3 with ⟨e, -⟩ | ⟨-, t, t1, t2, t3, -⟩
    · split at hb1
      · right; omega
      · left; omega
    · right
      have := v2 t t1 t2
      omega
  by_cases l : b0 < s + e_V D (r + 1) p T
  · rw [if_pos l, if_pos l]
    have eb : b = s + e_V D (r + 1) p T := by omega
    refine ⟨eb, ?_⟩
    rcases h3 with ⟨e, eB⟩ | ⟨hl, t, t1, t2, t3, t4, eB⟩
    · by_cases l1 : b0 < s + e_V D r (p + 1) T
      · rw [if_pos l1] at hb1 hB1
        rcases e_c_p D r p T with ⟨ec, -⟩ | ⟨ec, -⟩
        · rw [ec, eB, hB1]
        · omega
      · rw [if_neg l1] at hb1
        omega
    · rcases e_c_p D r p T with ⟨ec, ev⟩ | ⟨ec, u, u1, u2, u3, u4, u5⟩
      · split at hb1 <;> omega
      · rw [u2, eB]
        have : t = u := by
          rcases Nat.lt_trichotomy t u with c | c | c
          · exact absurd (show e_vl D r p T t = e_V D (r + 1) p T by omega) (u5 t c t2)
          · exact c
          · have := t4 u c u3
            omega
        rw [this]
  · rw [if_neg l, if_neg l]
    have eb : b = b0 := by omega
    refine ⟨eb, ?_⟩
    have l1 : ¬ b0 < s + e_V D r (p + 1) T := by omega
    rw [if_neg l1] at hb1 hB1
    rcases h3 with ⟨e, eB⟩ | ⟨hl, -⟩
    · rw [eB, hB1]
    · omega
