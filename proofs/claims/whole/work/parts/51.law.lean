-- who may carry what
theorem C_isP {mi : nc_Mem} {b ps p : Nat} (h : mi b 5 = nI ps) (hs : ps ≤ 6) (hp : p < ps) : f_X5_isPerson mi b (nI p) = 1 := by
  unfold f_X5_isPerson
  rw [h, if_neg (nI_pos (by omega)), if_neg (nI_ge hp (by omega))]
theorem C_isPn {mi : nc_Mem} {b ps : Nat} {x : Int32} (h : mi b 5 = nI ps) (hx : x < 0 ∨ nI ps ≤ x) : f_X5_isPerson mi b x = 0 := by
  unfold f_X5_isPerson
  rw [h]
  by_cases h0 : x < 0
  · rw [if_pos h0]
  · rw [if_neg h0, if_pos (hx.resolve_left h0)]
theorem C_isT {mi : nc_Mem} {b th t : Nat} (h : mi b 6 = nI th) (hs : th ≤ 6) (ht : t < th) : f_X5_isThing mi b (nI t) = 1 := by
  unfold f_X5_isThing
  rw [h, if_neg (nI_pos (by omega)), if_neg (nI_ge ht (by omega))]
theorem C_isTn {mi : nc_Mem} {b th : Nat} {x : Int32} (h : mi b 6 = nI th) (hx : x < 0 ∨ nI th ≤ x) : f_X5_isThing mi b x = 0 := by
  unfold f_X5_isThing
  rw [h]
  by_cases h0 : x < 0
  · rw [if_pos h0]
  · rw [if_neg h0, if_pos (hx.resolve_left h0)]
theorem C_isL {mi : nc_Mem} {b pl p : Nat} (h : mi b 4 = nI pl) (hs : pl ≤ 7) (hp : p < pl) : f_X5_isPlace mi b (nI p) = 1 := by
  unfold f_X5_isPlace
  rw [h, if_neg (nI_pos (by omega)), if_neg (nI_ge hp (by omega))]
theorem C_isLn {mi : nc_Mem} {b pl : Nat} {x : Int32} (h : mi b 4 = nI pl) (hx : x < 0 ∨ nI pl ≤ x) : f_X5_isPlace mi b x = 0 := by
  unfold f_X5_isPlace
  rw [h]
  by_cases h0 : x < 0
  · rw [if_pos h0]
  · rw [if_neg h0, if_pos (hx.resolve_left h0)]
theorem nI_pred_lt {n : Nat} (hn : n ≤ 1000) (x : Int32) : (nI n - 1 < x) = (nI n ≤ x) := by
  apply propext
  have h1 : (nI n - 1).toInt = (n : Int) - 1 := pk_sub_toInt (a := n) (b := 1) (by omega) (by omega)
  have h2 : (nI n).toInt = (n : Int) := nI_toInt (by omega)
  rw [Int32.lt_iff_toInt_lt, Int32.le_iff_toInt_le, h1, h2]
  omega
theorem M_in1 {mi : nc_Mem} {n j : Nat} (hn : n ≤ 1000) (hj : j < n) : f_X8_in mi (nI j) 0 (nI n - 1) = 1 := by
  unfold f_X8_in
  rw [if_neg (nI_pos (by omega)), if_neg (by rw [nI_pred_lt hn]; exact nI_ge hj (by omega))]
theorem M_in0 {mi : nc_Mem} {n : Nat} (hn : n ≤ 1000) {x : Int32} (hx : x < 0 ∨ nI n ≤ x) : f_X8_in mi x 0 (nI n - 1) = 0 := by
  unfold f_X8_in
  by_cases h0 : x < 0
  · rw [if_pos h0]
  · rw [if_neg h0, if_pos (by rw [nI_pred_lt hn]; exact hx.resolve_left h0)]
theorem M_isP {mi : nc_Mem} {m ps p : Nat} (h : mi m 7 = nI ps) (hs : ps ≤ 6) (hp : p < ps) : f_X8_isPerson mi m (nI p) = some 1 := by
  unfold f_X8_isPerson
  rw [h, M_in1 (by omega) hp]
  rfl
theorem M_isPn {mi : nc_Mem} {m ps : Nat} {x : Int32} (h : mi m 7 = nI ps) (hs : ps ≤ 6) (hx : x < 0 ∨ nI ps ≤ x) : f_X8_isPerson mi m x = some 0 := by
  unfold f_X8_isPerson
  rw [h, M_in0 (by omega) hx]
  rfl
theorem M_isT {mi : nc_Mem} {m th t : Nat} (h : mi m 9 = nI th) (hs : th ≤ 6) (ht : t < th) : f_X8_isThing mi m (nI t) = some 1 := by
  unfold f_X8_isThing
  rw [h, M_in1 (by omega) ht]
  rfl
theorem M_isTn {mi : nc_Mem} {m th : Nat} {x : Int32} (h : mi m 9 = nI th) (hs : th ≤ 6) (hx : x < 0 ∨ nI th ≤ x) : f_X8_isThing mi m x = some 0 := by
  unfold f_X8_isThing
  rw [h, M_in0 (by omega) hx]
  rfl
theorem M_isL {mi : nc_Mem} {m pl p : Nat} (h : mi m 5 = nI pl) (hs : pl ≤ 7) (hp : p < pl) : f_X8_isPlace mi m (nI p) = some 1 := by
  unfold f_X8_isPlace
  rw [h, M_in1 (by omega) hp]
  rfl
theorem M_isLn {mi : nc_Mem} {m pl : Nat} {x : Int32} (h : mi m 5 = nI pl) (hs : pl ≤ 7) (hx : x < 0 ∨ nI pl ≤ x) : f_X8_isPlace mi m x = some 0 := by
  unfold f_X8_isPlace
  rw [h, M_in0 (by omega) hx]
  rfl
/-- the law: 1 he may, 0 he may not -/
def s_lets (S : nc_S) (rule : Int32) (p t : Nat) (mn gv : Int32) : Int32 :=
  if rule = 3 then 1
  else if rule = 4 ∧ 720 ≤ mn then 1
  else if s_T S t 0 = nI p ∨ s_T S t 1 = nI p then (if rule = 2 ∧ ¬ gv = -9 ∧ 0 ≤ mn - gv ∧ mn - gv ≤ 59 then 1 else 0)
  else if rule = 1 ∨ rule = 4 then (if ¬ s_P S p 3 = 0 ∧ (s_P S (s_T S t 0).toNatClampNeg 3 = s_P S p 3 ∨ s_P S (s_T S t 1).toNatClampNeg 3 = s_P S p 3) then 0 else 1)
  else 1
theorem s_lets_01 (S : nc_S) (rule : Int32) (p t : Nat) (mn gv : Int32) : s_lets S rule p t mn gv = 0 ∨ s_lets S rule p t mn gv = 1 := by
  unfold s_lets
  repeat' split
  all_goals first | exact Or.inl rfl | exact Or.inr rfl
theorem nc_hour {mn gv : Int32} {N : Nat} (hN : N ≤ 2 ^ 30) (hm : nc_ok mn N) (hg : gv = -9 ∨ nc_ok gv N) : (¬ gv < 0 ∧ ¬ mn < gv ∧ ¬ 60 ≤ mn - gv) ↔ (¬ gv = -9 ∧ 0 ≤ mn - gv ∧ mn - gv ≤ 59) := by
  obtain ⟨a, ha, rfl⟩ := hm
  rcases hg with rfl | ⟨c, hc, rfl⟩
  · constructor
    · rintro ⟨h, -, -⟩
      exact absurd (show (-9 : Int32) < 0 by decide) h
    · rintro ⟨h, -, -⟩
      exact absurd rfl h
  · have e1 : (nI a - nI c).toInt = (a : Int) - c := pk_sub_toInt (by omega) (by omega)
    have e2 : (nI c).toInt = (c : Int) := nI_toInt (by omega)
    have e3 : (nI a).toInt = (a : Int) := nI_toInt (by omega)
    have e4 : (60 : Int32).toInt = 60 := by decide
    have e5 : (59 : Int32).toInt = 59 := by decide
    have e6 : (0 : Int32).toInt = 0 := by decide
    have e7 : (-9 : Int32).toInt = -9 := by decide
    rw [Int32.lt_iff_toInt_lt, Int32.lt_iff_toInt_lt, Int32.le_iff_toInt_le, Int32.le_iff_toInt_le, Int32.le_iff_toInt_le, ← Int32.toInt_inj, e1, e2, e3, e4, e5, e6, e7]
    omega
section LAW
variable {mi : nc_Mem} {S : nc_S} {n pl ps th p t : Nat}
theorem C_lawLets {b : Nat} (hS : vC mi b = S) (wf : s_wf S n pl ps th) (hp : p < ps) (ht : t < th) {rule mn gv : Int32} {N : Nat} (hN : N ≤ 2 ^ 30) (hm : nc_ok mn N) (hg : gv = -9 ∨ nc_ok gv N) : f_X5_lawLets mi b rule (nI p) (nI t) mn gv = some (s_lets S rule p t mn gv) := by
  obtain ⟨w1, w2, w3, w4, w5, w6, w7, w8, w9, w10, w11⟩ := wf
  obtain ⟨⟨o1, ho1, eo1⟩, ⟨o2, ho2, eo2⟩, -⟩ := w11 t ht
  have r1 : mi (b + 11 + t) 0 = nI o1 := (vC_T (by omega) (by omega)).trans (by rw [hS]; exact eo1)
  have r2 : mi (b + 11 + t) 1 = nI o2 := (vC_T (by omega) (by omega)).trans (by rw [hS]; exact eo2)
  have r3 : ∀ q, q < 6 → mi (b + 5 + q) 3 = s_P S q 3 := fun q hq => (vC_P hq (by omega)).trans (by rw [hS])
  have hh := nc_hour hN hm hg
  have c1 : (nI o1).toNatClampNeg = o1 := nI_clamp (by omega)
  have c2 : (nI o2).toNatClampNeg = o2 := nI_clamp (by omega)
  unfold f_X5_lawLets s_lets
  simp only [nc_let_eq]
  rw [nc_at_nI (by omega) (by omega), nc_at_nI (by omega) (by omega), r1, r2, nc_at_nI (by omega) (by omega), nc_at_nI (by omega) (by omega), r3 p (by omega), r3 o1 (by omega), r3 o2 (by omega), eo1, eo2, c1, c2]
  by_cases a1 : rule = 3
  · simp [a1]
  · by_cases a2 : rule = 4
    · subst a2
      by_cases a3 : mn < 720
      · have a4 : ¬ (720 : Int32) ≤ mn := Int32.not_le.mpr a3
        simp only [a3, a4, if_true, if_false, and_false, false_and, a1]
        by_cases q1 : nI p = nI o1
        · simp [q1]
        · by_cases q2 : nI p = nI o2
          · simp [q1, q2]
          · simp only [q1, q2, Ne.symm q1, Ne.symm q2, if_false, or_self]
            by_cases q3 : s_P S p 3 = 0
            · simp [q3, Ne.symm q1, Ne.symm q2]
            · simp only [q3, if_false, eq_comm (a := s_P S p 3), not_false_eq_true, true_and, or_true, if_true, show ¬ nI o1 = nI p from Ne.symm q1, show ¬ nI o2 = nI p from Ne.symm q2, or_self]
              by_cases q4 : s_P S o1 3 = s_P S p 3
              · simp [q4]
              · by_cases q5 : s_P S o2 3 = s_P S p 3
                · simp [q4, q5]
                · simp [q4, q5]
      · have a4 : (720 : Int32) ≤ mn := Int32.not_lt.mp a3
        simp [a3, a4]
    · simp only [a1, a2, if_false, false_and]
      by_cases q : nI o1 = nI p ∨ nI o2 = nI p
      · rw [if_pos q]
        have q' : (if nI p = nI o1 then (if rule = 2 then (if gv < 0 then some (0 : Int32) else if mn < gv then some 0 else if 60 ≤ mn - gv then some 0 else some 1) else some 0) else if nI p = nI o2 then (if rule = 2 then (if gv < 0 then some (0 : Int32) else if mn < gv then some 0 else if 60 ≤ mn - gv then some 0 else some 1) else some 0) else some 7) = (if rule = 2 then (if gv < 0 then some (0 : Int32) else if mn < gv then some 0 else if 60 ≤ mn - gv then some 0 else some 1) else some 0) := by
          rcases q with q | q
          · rw [if_pos q.symm]
          · by_cases q1 : nI p = nI o1
            · rw [if_pos q1]
            · rw [if_neg q1, if_pos q.symm]
        have q2 : ∀ X : Option Int32, (if nI p = nI o1 then (if rule = 2 then (if gv < 0 then some (0 : Int32) else if mn < gv then some 0 else if 60 ≤ mn - gv then some 0 else some 1) else some 0) else if nI p = nI o2 then (if rule = 2 then (if gv < 0 then some (0 : Int32) else if mn < gv then some 0 else if 60 ≤ mn - gv then some 0 else some 1) else some 0) else X) = (if rule = 2 then (if gv < 0 then some (0 : Int32) else if mn < gv then some 0 else if 60 ≤ mn - gv then some 0 else some 1) else some 0) := by
          intro X
          rcases q with q | q
          · rw [if_pos q.symm]
          · by_cases q1 : nI p = nI o1
            · rw [if_pos q1]
            · rw [if_neg q1, if_pos q.symm]
        rw [q2]
        by_cases h2 : rule = 2
        · rw [if_pos h2]
          by_cases g1 : ¬ gv < 0 ∧ ¬ mn < gv ∧ ¬ 60 ≤ mn - gv
          · rw [if_neg g1.1, if_neg g1.2.1, if_neg g1.2.2, if_pos ⟨h2, hh.mp g1⟩]
          · have e9 : (if rule = 2 ∧ ¬ gv = -9 ∧ 0 ≤ mn - gv ∧ mn - gv ≤ 59 then (1 : Int32) else 0) = 0 := if_neg (fun z => g1 (hh.mpr z.2))
            rw [e9]
            by_cases k1 : gv < 0
            · rw [if_pos k1]
            · rw [if_neg k1]
              by_cases k2 : mn < gv
              · rw [if_pos k2]
              · rw [if_neg k2, if_pos (Classical.byContradiction fun k3 => g1 ⟨k1, k2, k3⟩)]
        · rw [if_neg h2, if_neg (fun z => h2 z.1)]
      · rw [if_neg q, if_neg (fun z => q (Or.inl z.symm)), if_neg (fun z => q (Or.inr z.symm))]
        by_cases h1 : rule = 1
        · subst h1
          simp only [if_true, true_or]
          by_cases q3 : s_P S p 3 = 0
          · simp [q3]
          · simp only [q3, if_false, not_false_eq_true, true_and, eq_comm (a := s_P S p 3)]
            by_cases q4 : s_P S o1 3 = s_P S p 3
            · simp [q4]
            · by_cases q5 : s_P S o2 3 = s_P S p 3
              · simp [q4, q5]
              · simp [q4, q5]
        · simp [h1]
theorem M_isOwner {m : Nat} (hS : vM mi m = S) (ht : t < 6) : f_X8_isOwner mi m (nI p) (nI t) = some (if s_T S t 0 = nI p ∨ s_T S t 1 = nI p then 1 else 0) := by
  have r1 : mi (m + 19 + 1 + t) 0 = s_T S t 0 := (vM_T ht (by omega)).trans (by rw [hS])
  have r2 : mi (m + 19 + 1 + t) 1 = s_T S t 1 := (vM_T ht (by omega)).trans (by rw [hS])
  unfold f_X8_isOwner
  rw [nc_at_nI ht (by omega), r1, r2]
  by_cases q1 : s_T S t 0 = nI p
  · simp [q1]
  · by_cases q2 : s_T S t 1 = nI p
    · simp [q1, q2]
    · simp [q1, q2]
theorem M_isKin {m : Nat} (hS : vM mi m = S) (wf : s_wf S n pl ps th) (hp : p < ps) (ht : t < th) : f_X8_isKin mi m (nI p) (nI t) = some (if ¬ s_P S p 3 = 0 ∧ (s_P S (s_T S t 0).toNatClampNeg 3 = s_P S p 3 ∨ s_P S (s_T S t 1).toNatClampNeg 3 = s_P S p 3) then 1 else 0) := by
  obtain ⟨w1, w2, w3, w4, w5, w6, w7, w8, w9, w10, w11⟩ := wf
  obtain ⟨⟨o1, ho1, eo1⟩, ⟨o2, ho2, eo2⟩, -⟩ := w11 t ht
  have r1 : mi (m + 19 + 1 + t) 0 = nI o1 := (vM_T (by omega) (by omega)).trans (by rw [hS]; exact eo1)
  have r2 : mi (m + 19 + 1 + t) 1 = nI o2 := (vM_T (by omega) (by omega)).trans (by rw [hS]; exact eo2)
  have r3 : ∀ q, q < 6 → mi (m + 12 + 1 + q) 3 = s_P S q 3 := fun q hq => (vM_P hq (by omega)).trans (by rw [hS])
  have c1 : (nI o1).toNatClampNeg = o1 := nI_clamp (by omega)
  have c2 : (nI o2).toNatClampNeg = o2 := nI_clamp (by omega)
  unfold f_X8_isKin
  simp only [nc_let_eq]
  rw [nc_at_nI (by omega) (by omega), nc_at_nI (by omega) (by omega), r1, r2, nc_at_nI (by omega) (by omega), nc_at_nI (by omega) (by omega), r3 p (by omega), r3 o1 (by omega), r3 o2 (by omega), eo1, eo2, c1, c2]
  by_cases q3 : s_P S p 3 = 0
  · simp [q3]
  · simp only [q3, if_false, not_false_eq_true, true_and]
    by_cases q4 : s_P S o1 3 = s_P S p 3
    · simp [q4]
    · by_cases q5 : s_P S o2 3 = s_P S p 3
      · simp [q4, q5]
      · simp [q4, q5]
theorem M_lets {m : Nat} (hS : vM mi m = S) (wf : s_wf S n pl ps th) (hp : p < ps) (ht : t < th) {rule mn gv : Int32} (hr : nc_ok rule 5) : f_X8_lets mi m rule (nI p) (nI t) mn gv = some (s_lets S rule p t mn gv) := by
  have ho := M_isOwner (mi := mi) (p := p) hS (show t < 6 by have := wf.2.2.2.2.2.2.1; omega)
  have hk := M_isKin hS wf hp ht
  unfold f_X8_lets s_lets
  rw [ho, hk]
  simp only [nc_some_bind]
  obtain ⟨d, hd, rfl⟩ := hr
  rcases (show d = 0 ∨ d = 1 ∨ d = 2 ∨ d = 3 ∨ d = 4 by omega) with rfl | rfl | rfl | rfl | rfl
  · simp [show ¬ nI 0 = 3 by decide, show ¬ nI 0 = 4 by decide, show ¬ nI 0 = 2 by decide, show ¬ nI 0 = 1 by decide, show nI 0 = 0 by decide]
    grind
  · simp only [show ¬ nI 1 = 3 by decide, show ¬ nI 1 = 4 by decide, show ¬ nI 1 = 2 by decide, show nI 1 = 1 by decide, show ¬ nI 1 = 0 by decide, if_true, if_false, false_and, true_or, show ¬ (1 : Int32) = 0 by decide, show ¬ (1 : Int32) = 3 by decide, show ¬ (1 : Int32) = 4 by decide, show ¬ (1 : Int32) = 2 by decide]
    by_cases q : s_T S t 0 = nI p ∨ s_T S t 1 = nI p
    · simp [q]
    · by_cases q2 : ¬ s_P S p 3 = 0 ∧ (s_P S (s_T S t 0).toNatClampNeg 3 = s_P S p 3 ∨ s_P S (s_T S t 1).toNatClampNeg 3 = s_P S p 3)
      · simp [q, q2]
      · simp [q, q2]
  · simp only [show nI 2 = 2 by decide, if_true, if_false, false_and, true_and, show ¬ (2 : Int32) = 0 by decide, show ¬ (2 : Int32) = 3 by decide, show ¬ (2 : Int32) = 4 by decide, show ¬ (2 : Int32) = 1 by decide, or_self]
    by_cases q : s_T S t 0 = nI p ∨ s_T S t 1 = nI p
    · simp only [q, if_true, show ¬ (1 : Int32) = 0 by decide, if_false]
      unfold f_X8_in
      by_cases g1 : gv = -9
      · simp [g1]
      · simp only [g1, if_false, not_false_eq_true, true_and]
        by_cases g2 : mn - gv < 0
        · have : ¬ 0 ≤ mn - gv := Int32.not_le.mpr g2
          simp [g2, this]
        · have g3 : 0 ≤ mn - gv := Int32.not_lt.mp g2
          by_cases g4 : 59 < mn - gv
          · have : ¬ mn - gv ≤ 59 := Int32.not_le.mpr g4
            simp [g2, g4, this]
          · have : mn - gv ≤ 59 := Int32.not_lt.mp g4
            simp [g2, g4, this, g3]
    · simp [q]
  · simp [show nI 3 = 3 by decide]
  · simp only [show nI 4 = 4 by decide, if_true, if_false, true_and, show ¬ (4 : Int32) = 0 by decide, show ¬ (4 : Int32) = 3 by decide, show ¬ (4 : Int32) = 2 by decide, show ¬ (4 : Int32) = 1 by decide, or_true, false_and]
    by_cases g : (720 : Int32) ≤ mn
    · simp [g]
    · simp only [g, if_false]
      by_cases q : s_T S t 0 = nI p ∨ s_T S t 1 = nI p
      · simp [q]
      · by_cases q2 : ¬ s_P S p 3 = 0 ∧ (s_P S (s_T S t 0).toNatClampNeg 3 = s_P S p 3 ∨ s_P S (s_T S t 1).toNatClampNeg 3 = s_P S p 3)
        · simp [q, q2]
        · simp [q, q2]
end LAW
