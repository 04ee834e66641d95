-- TOWN: how the reference reads letters
def p_M (L : Nat) (ch : Nat → Int32) (M : Nat) (m : nc_Mem) : Prop := m M 1 = nI L ∧ ∀ i, i < 64 → m (M + 1) i = ch i
def p_G (M : Nat) (m0 m : nc_Mem) : Prop := ∀ a k, ¬ ((a = M ∧ (k = 14 ∨ k = 16)) ∨ a = M + 26) → m a k = m0 a k
def p_R (M : Nat) (m0 : nc_Mem) (q : Nat) (ns : List Int32) (m : nc_Mem) : Prop := m M 14 = nI q ∧ m M 16 = nI ns.length ∧ (∀ i, i < ns.length → m (M + 26) i = ns.getD i 0) ∧ p_G M m0 m
section MR
variable {L : Nat} {ch : Nat → Int32} {M : Nat} {m0 m : nc_Mem}
theorem p_M_G (h : p_M L ch M m0) (hF : p_G M m0 m) : p_M L ch M m := ⟨(hF _ _ (by omega)).trans h.1, fun i hi => (hF _ _ (by omega)).trans (h.2 i hi)⟩
theorem nc_zb0 {α : Type} (e : Option α) : nc_zb 0 e = e := rfl
theorem nc_zb1 {α : Type} (e : Option α) : nc_zb 1 e = e := rfl
theorem M_must {q : Nat} {ns : List Int32} {c : Int32} (h0 : p_M L ch M m0) (hL : L ≤ 64) (hq : q ≤ L) (hc : ¬ c = -1) (R : p_R M m0 q ns m) : ∃ m', f_X8_must m M c = some (m', if p_sg L ch q = c then 1 else 0) ∧ p_R M m0 (if p_sg L ch q = c then q + 1 else q) ns m' := by
  obtain ⟨r1, r2, r3, r4⟩ := R
  obtain ⟨g1, g2⟩ := p_M_G h0 r4
  have up : ∀ v, p_G M m0 (nc_up m M 14 v) := fun v a k h => (nc_up_ne (by omega)).trans (r4 a k h)
  unfold f_X8_must
  simp only [nc_let_eq]
  rw [g1, r1]
  by_cases c1 : q < L
  · rw [if_neg (nI_ge c1 (by omega)), nc_at_nI (by omega) (by omega), g2 q (by omega)]
    have e0 : p_sg L ch q = ch q := if_pos c1
    rw [e0]
    by_cases c2 : ch q = c
    · rw [if_pos c2, if_pos c2, if_pos c2]
      refine ⟨nc_up m M 14 (nI (q + 1)), ?_, nc_up_same, (nc_up_ne (by omega)).trans r2, fun i hi => (nc_up_na (by omega)).trans (r3 i hi), up _⟩
      rw [nI_1, nc_zb1]
      rfl
    · rw [if_neg c2, if_neg c2, if_neg c2]
      refine ⟨nc_up m M 14 (nI q), ?_, nc_up_same, (nc_up_ne (by omega)).trans r2, fun i hi => (nc_up_na (by omega)).trans (r3 i hi), up _⟩
      rw [show nI q + 0 = nI q from Int32.add_zero _, nc_zb0]
      rfl
  · rw [if_pos (nI_le (by omega) (by omega))]
    have e0 : p_sg L ch q = -1 := if_neg c1
    rw [e0, if_neg (show ¬ (-1 : Int32) = c from fun z => hc z.symm), if_neg (show ¬ (-1 : Int32) = c from fun z => hc z.symm)]
    refine ⟨nc_up m M 14 (nI q), ?_, nc_up_same, (nc_up_ne (by omega)).trans r2, fun i hi => (nc_up_na (by omega)).trans (r3 i hi), up _⟩
    rw [show nI q + 0 = nI q from Int32.add_zero _, nc_zb0]
    rfl
theorem M_digit {q : Nat} (h : p_M L ch M m) (hL : L ≤ 64) (hq : m M 14 = nI q) (hq' : q < 2 ^ 31) : f_X8_isDigit m M = some (if p_dig (p_sg L ch q) then 1 else 0) := by
  unfold f_X8_isDigit
  rw [h.1, hq]
  by_cases c1 : q < L
  · rw [if_neg (nI_ge c1 (by omega)), nc_at_nI (by omega) (by omega), h.2 q (by omega), show p_sg L ch q = ch q from if_pos c1]
    by_cases c2 : ch q < 48
    · rw [if_pos c2, if_neg (fun z => z.1 c2)]
    · rw [if_neg c2]
      by_cases c3 : 57 < ch q
      · rw [if_pos c3, if_neg (fun z => z.2 c3)]
      · rw [if_neg c3, if_pos ⟨c2, c3⟩]
  · rw [if_pos (nI_le (by omega) hq'), show p_sg L ch q = -1 from if_neg c1]
    rfl
theorem M_num {q d : Nat} {ns : List Int32} {a : Int32} (h0 : p_M L ch M m0) (hL : L ≤ 64) (hq : q ≤ L) (ha : a = nI d) (hd : d ≤ 3) (hn : ns.length < 7) (R : p_R M m0 q ns m) : ∃ m', f_X8_number m M a = some (m', if p_dg L ch d q = 0 then 0 else 1) ∧ p_R M m0 (q + p_dg L ch d q) (if p_dg L ch d q = 0 then ns else ns ++ [p_val L ch q (p_dg L ch d q)]) m' := by
  obtain ⟨r1, r2, r3, r4⟩ := R
  subst ha
  have loop : ∀ k1 : Int32 → Int32 → nc_Mem → Option (nc_Mem × Int32), ∃ m', nc_loop (fun _ _ _ => none) (B_X8_number_4 M (nI d) k1) 200 0 0 m = k1 (p_val L ch q (p_dg L ch d q)) (nI (p_dg L ch d q)) m' ∧ m' M 14 = nI (q + p_dg L ch d q) ∧ ∀ a k, ¬ (a = M ∧ k = 14) → m' a k = m a k := by
    intro k1
    have key := nc_loop_ind (z := fun _ _ _ => none) (B := B_X8_number_4 M (nI d) k1) (fun r κ => ∀ i m1, i + r = d → m1 M 14 = nI (q + i) → (∀ a k, ¬ (a = M ∧ k = 14) → m1 a k = m a k) → ∃ m', κ (p_val L ch q i) (nI i) m1 = k1 (p_val L ch q (i + p_dg L ch r (q + i))) (nI (i + p_dg L ch r (q + i))) m' ∧ m' M 14 = nI (q + (i + p_dg L ch r (q + i))) ∧ ∀ a k, ¬ (a = M ∧ k = 14) → m' a k = m a k) (fun r κ ih i m1 hi h14 hF => by
      have hM1 : p_M L ch M m1 := p_M_G h0 (fun a k h => (hF a k (by omega)).trans (r4 a k h))
      unfold B_X8_number_4
      simp only [nc_let_eq]
      cases r with
      | zero =>
        refine ⟨m1, ?_, h14, hF⟩
        rw [if_pos (nI_le (by omega) (by omega))]
        rfl
      | succ r =>
        rw [if_neg (nI_ge (by omega) (by omega)), M_digit hM1 hL h14 (by omega), nc_some_bind]
        have e0 : p_dg L ch (r + 1) (q + i) = if p_dig (p_sg L ch (q + i)) then p_dg L ch r (q + i + 1) + 1 else 0 := rfl
        rw [e0]
        by_cases c : p_dig (p_sg L ch (q + i))
        · have hlt := p_sg_lt (p_dgI _ c)
          rw [if_pos c, if_neg (by decide), h14, nc_at_nI (by omega) (by omega), hM1.2 _ (by omega), nI_1, nI_1, if_pos c]
          obtain ⟨m', e1, k1', k2⟩ := ih r (by omega) (i + 1) (nc_up m1 M 14 (nI (q + i + 1))) (by omega) (by rw [nc_up_same]; rfl) (fun a k h => (nc_up_ne h).trans (hF a k h))
          have e2 : p_val L ch q (i + 1) = 10 * p_val L ch q i + ch (q + i) - 48 := by
            show nc_fo (p_vg L ch q) (i + 1) 0 0 = _
            rw [nc_fo_succ, Nat.zero_add]
            show 10 * p_val L ch q i + p_sg L ch (q + i) - 48 = _
            rw [show p_sg L ch (q + i) = ch (q + i) from if_pos hlt]
          have e3 : i + 1 + p_dg L ch r (q + (i + 1)) = i + (p_dg L ch r (q + i + 1) + 1) := by
            rw [show q + (i + 1) = q + i + 1 from rfl]
            omega
          rw [e3, e2] at e1
          rw [e3] at k1'
          exact ⟨m', e1, k1', k2⟩
        · rw [if_neg c, if_pos rfl, if_neg c]
          exact ⟨m1, rfl, h14, hF⟩) 200 d (by omega) 0 m (by omega) r1 (fun _ _ _ => rfl)
    rw [Nat.add_zero, Nat.zero_add] at key
    exact key
  unfold f_X8_number
  rw [nc_let_eq]
  obtain ⟨m1, e1, h14, F1⟩ := loop (fun (x2 : Int32) (x3 : Int32) (mi4 : nc_Mem) =>
nc_let (fun (mi6 : nc_Mem) =>
if x3 ≤ 0 then (
some (mi6, 0))
else (
some (mi6, 1))) (fun (k5 : nc_Mem → Option (nc_Mem × Int32)) =>
if x3 ≤ 0 then (
k5 mi4)
else (
nc_let (nc_up mi4 M 16 ((mi4 M 16) + 1)) (fun (mi9 : nc_Mem) =>
nc_at (mi4 M 16) 7 (fun (j10 : Nat) =>
nc_let (nc_up mi9 (M + 26) j10 x2) (fun (mi11 : nc_Mem) =>
k5 mi11))))))
  have dl := p_dg_le (L := L) (ch := ch) d q
  have G1 : p_G M m0 m1 := fun a k h => (F1 a k (by omega)).trans (r4 a k h)
  by_cases c : p_dg L ch d q = 0
  · refine ⟨m1, ?_, h14, ?_, ?_, G1⟩
    · refine e1.trans ?_
      simp only [nc_let_eq]
      rw [c, if_pos (show nI 0 ≤ 0 by decide), if_pos (show nI 0 ≤ 0 by decide), if_pos rfl]
    · rw [if_pos c, F1 _ _ (by omega)]
      exact r2
    · rw [if_pos c]
      exact fun i hi => (F1 _ _ (by omega)).trans (r3 i hi)
  · have cn : ¬ nI (p_dg L ch d q) ≤ 0 := nI_ge (a := 0) (by omega) (by omega)
    refine ⟨nc_up (nc_up m1 M 16 (nI (ns.length + 1))) (M + 26) ns.length (p_val L ch q (p_dg L ch d q)), ?_, ?_, ?_, ?_, ?_⟩
    · refine e1.trans ?_
      simp only [nc_let_eq]
      rw [if_neg cn, if_neg c, F1 M 16 (by omega), r2, nc_at_nI hn (by omega), if_neg cn, nI_1]
    · rw [nc_up_na (by omega), nc_up_ne (by omega)]
      exact h14
    · rw [nc_up_na (by omega), nc_up_same, if_neg c, List.length_append, List.length_singleton]
    · rw [if_neg c]
      intro i hi
      rw [List.length_append, List.length_singleton] at hi
      by_cases ci : i = ns.length
      · rw [ci, nc_up_same, List.getD_eq_getElem?_getD, List.getElem?_append_right (Nat.le_refl _), Nat.sub_self]
        rfl
      · rw [nc_up_ne (by omega), nc_up_na (by omega), F1 _ _ (by omega), r3 i (by omega), List.getD_eq_getElem?_getD, List.getD_eq_getElem?_getD, List.getElem?_append_left (by omega)]
    · exact fun a k h => (nc_up_na (by omega)).trans ((nc_up_ne (by omega)).trans (G1 a k h))
def p_gl (L : Nat) (ch : Nat → Int32) (M : Nat) (m0 : nc_Mem) (f r j q : Nat) (ns : List Int32) (o : Option (nc_Mem × Int32)) : Prop := ∃ m', o = some (m', if (p_run L ch f r j q ns).1 = true then 1 else 0) ∧ p_R M m0 (p_run L ch f r j q ns).2.1 (p_run L ch f r j q ns).2.2 m'
variable {f r j q d : Nat} {ns : List Int32} {a : Int32} {k0 : nc_Mem → Option (nc_Mem × Int32)} {K : nc_Mem × Int32 → Option (nc_Mem × Int32)}
theorem p_run_d (hp : ¬ p_pt f j) (hm : p_mo f j = d) : p_run L ch f (r + 1) j q ns = if p_dg L ch d q = 0 then (false, q, ns) else p_run L ch f r (j + 1) (q + p_dg L ch d q) (ns ++ [p_val L ch q (p_dg L ch d q)]) := by
  show (if p_pt f j then _ else _) = _
  rw [if_neg hp, hm]
theorem p_run_p (hp : p_pt f j) : p_run L ch f (r + 1) j q ns = if p_sg L ch q = nc_sc f j then p_run L ch f r (j + 1) (q + 1) ns else (false, q, ns) := by
  show (if p_pt f j then _ else _) = _
  rw [if_pos hp]
theorem p_gl_0 (e : p_run L ch f r j q ns = (false, q, ns)) (R : p_R M m0 q ns m) : p_gl L ch M m0 f r j q ns (some (m, 0)) := by
  unfold p_gl
  rw [e]
  exact ⟨m, rfl, R⟩
theorem G_num (h0 : p_M L ch M m0) (hL : L ≤ 64) (hk0 : ∀ m', k0 m' = some (m', 0)) (ha : a = nI d) (hd : d ≤ 3) (hp : ¬ p_pt f j) (hm : p_mo f j = d) (hq : q ≤ L) (hn : ns.length < 7) (R : p_R M m0 q ns m) (hK : ∀ m' q' ns', p_R M m0 q' ns' m' → q' ≤ L → ns'.length = ns.length + 1 → p_gl L ch M m0 f r (j + 1) q' ns' (K (m', 1))) : p_gl L ch M m0 f (r + 1) j q ns (Option.bind (f_X8_number m M a) (fun z => if z.2 = 0 then k0 z.1 else K z)) := by
  obtain ⟨m', e, R'⟩ := M_num h0 hL hq ha hd hn R
  rw [e, nc_some_bind]
  have e0 := p_run_d (L := L) (ch := ch) (r := r) (q := q) (ns := ns) hp hm
  by_cases c : p_dg L ch d q = 0
  · rw [if_pos c] at e0 R' ⊢
    rw [if_pos rfl, hk0]
    rw [c] at R'
    exact p_gl_0 e0 R'
  · rw [if_neg c] at e0 R' ⊢
    rw [if_neg (show ¬ (1 : Int32) = 0 by decide)]
    unfold p_gl
    rw [e0]
    exact hK m' _ _ R' (p_dg_L d q hq) (by rw [List.length_append, List.length_singleton])
theorem G_com (h0 : p_M L ch M m0) (hL : L ≤ 64) (hk0 : ∀ m', k0 m' = some (m', 0)) (ha : a = nI d) (hd : d ≤ 3) (h44 : nc_sc f j = 44) (hp : ¬ p_pt f (j + 1)) (hm : p_mo f (j + 1) = d) (hq : q ≤ L) (hn : ns.length < 7) (R : p_R M m0 q ns m) (hK : ∀ m' q' ns', p_R M m0 q' ns' m' → q' ≤ L → ns'.length = ns.length + 1 → p_gl L ch M m0 f r (j + 2) q' ns' (K (m', 1))) : p_gl L ch M m0 f (r + 2) j q ns (Option.bind (f_X8_comma m M a) (fun z => if z.2 = 0 then k0 z.1 else K z)) := by
  obtain ⟨m1, e1, R1⟩ := M_must (c := 44) h0 hL hq (by decide) R
  have e0 := p_run_p (L := L) (ch := ch) (r := r + 1) (q := q) (ns := ns) (Or.inl h44)
  rw [h44] at e0
  unfold f_X8_comma
  rw [e1, nc_some_bind]
  by_cases c : p_sg L ch q = 44
  · have hq1 : q < L := p_sg_lt (fun z => by rw [z] at c; exact absurd c (by decide))
    rw [if_pos c] at e0 R1 ⊢
    rw [if_neg (show ¬ (1 : Int32) = 0 by decide)]
    obtain ⟨m', e, R'⟩ := M_num (a := a) h0 hL (show q + 1 ≤ L by omega) ha hd hn R1
    rw [e, nc_some_bind]
    have e2 := p_run_d (L := L) (ch := ch) (r := r) (q := q + 1) (ns := ns) hp hm
    rw [e2] at e0
    by_cases c2 : p_dg L ch d (q + 1) = 0
    · rw [if_pos c2] at e0 R' ⊢
      rw [if_pos rfl, nc_some_bind, if_pos rfl, hk0]
      rw [c2] at R'
      unfold p_gl
      rw [e0]
      exact ⟨m', rfl, R'⟩
    · rw [if_neg c2] at e0 R' ⊢
      rw [if_neg (show ¬ (1 : Int32) = 0 by decide), nc_some_bind, if_neg (show ¬ (1 : Int32) = 0 by decide)]
      unfold p_gl
      rw [e0]
      exact hK m' _ _ R' (p_dg_L d (q + 1) (by omega)) (by rw [List.length_append, List.length_singleton])
  · rw [if_neg c] at e0 R1 ⊢
    rw [if_pos rfl, nc_some_bind, if_pos rfl, hk0]
    exact p_gl_0 e0 R1
theorem G_last (h0 : p_M L ch M m0) (hL : L ≤ 64) (h59 : nc_sc f j = 59) (hq : q ≤ L) (R : p_R M m0 q ns m) : p_gl L ch M m0 f 1 j q ns (Option.bind (f_X8_must m M 59) (fun z => if z.2 = 0 then some (z.1, 0) else some (z.1, 1))) := by
  obtain ⟨m1, e1, R1⟩ := M_must (c := 59) h0 hL hq (by decide) R
  have e0 := p_run_p (L := L) (ch := ch) (r := 0) (q := q) (ns := ns) (Or.inr h59)
  rw [h59] at e0
  rw [e1, nc_some_bind]
  by_cases c : p_sg L ch q = 59
  · rw [if_pos c] at e0 R1 ⊢
    rw [if_neg (show ¬ (1 : Int32) = 0 by decide)]
    unfold p_gl
    rw [e0]
    exact ⟨m1, rfl, R1⟩
  · rw [if_neg c] at e0 R1 ⊢
    rw [if_pos rfl]
    exact p_gl_0 e0 R1
theorem M_g1 {k3 : Int32 → nc_Mem → Option (nc_Mem × Int32)} (h0 : p_M L ch M m0) (hL : L ≤ 64) (k30 : ∀ m', k3 0 m' = some (m', 0)) (k31 : ∀ m', k3 1 m' = Option.bind (f_X8_must m' M 59) (fun z => if z.2 = 0 then some (z.1, 0) else some (z.1, 1))) (hq : q ≤ L) (R : p_R M m0 q [] m) : p_gl L ch M m0 1 5 0 q [] (Option.bind (f_X8_number m M 1) (fun (z0 : nc_Mem × Int32) => if z0.2 = 0 then k3 0 z0.1 else Option.bind (f_X8_number z0.1 M 1) (fun (z1 : nc_Mem × Int32) => if z1.2 = 0 then k3 0 z1.1 else Option.bind (f_X8_comma z1.1 M 2) (fun (z2 : nc_Mem × Int32) => if z2.2 = 0 then k3 0 z2.1 else k3 1 z2.1)))) := by
  refine G_num (f := 1) (j := 0) (d := 1) (a := 1) h0 hL k30 rfl (by omega) (by decide +kernel) (by decide +kernel) hq (by decide) R (fun m0 q0 n0 R0 l0 y0 => ?_)
  refine G_num (f := 1) (j := 1) (d := 1) (a := 1) h0 hL k30 rfl (by omega) (by decide +kernel) (by decide +kernel) l0 (by rw [y0]; decide) R0 (fun m1 q1 n1 R1 l1 y1 => ?_)
  refine G_com (f := 1) (j := 2) (d := 2) (a := 2) h0 hL k30 rfl (by omega) (by decide +kernel) (by decide +kernel) (by decide +kernel) l1 (by rw [y1, y0]; decide) R1 (fun m2 q2 n2 R2 l2 y2 => ?_)
  rw [k31]
  exact G_last (f := 1) (j := 4) h0 hL (by decide +kernel) l2 R2
theorem M_g2 {k3 : Int32 → nc_Mem → Option (nc_Mem × Int32)} (h0 : p_M L ch M m0) (hL : L ≤ 64) (k30 : ∀ m', k3 0 m' = some (m', 0)) (k31 : ∀ m', k3 1 m' = Option.bind (f_X8_must m' M 59) (fun z => if z.2 = 0 then some (z.1, 0) else some (z.1, 1))) (hq : q ≤ L) (R : p_R M m0 q [] m) : p_gl L ch M m0 2 9 0 q [] (Option.bind (f_X8_number m M 1) (fun (z0 : nc_Mem × Int32) => if z0.2 = 0 then k3 0 z0.1 else Option.bind (f_X8_number z0.1 M 1) (fun (z1 : nc_Mem × Int32) => if z1.2 = 0 then k3 0 z1.1 else Option.bind (f_X8_comma z1.1 M 3) (fun (z2 : nc_Mem × Int32) => if z2.2 = 0 then k3 0 z2.1 else Option.bind (f_X8_comma z2.1 M 1) (fun (z3 : nc_Mem × Int32) => if z3.2 = 0 then k3 0 z3.1 else Option.bind (f_X8_comma z3.1 M 1) (fun (z4 : nc_Mem × Int32) => if z4.2 = 0 then k3 0 z4.1 else k3 1 z4.1)))))) := by
  refine G_num (f := 2) (j := 0) (d := 1) (a := 1) h0 hL k30 rfl (by omega) (by decide +kernel) (by decide +kernel) hq (by decide) R (fun m0 q0 n0 R0 l0 y0 => ?_)
  refine G_num (f := 2) (j := 1) (d := 1) (a := 1) h0 hL k30 rfl (by omega) (by decide +kernel) (by decide +kernel) l0 (by rw [y0]; decide) R0 (fun m1 q1 n1 R1 l1 y1 => ?_)
  refine G_com (f := 2) (j := 2) (d := 3) (a := 3) h0 hL k30 rfl (by omega) (by decide +kernel) (by decide +kernel) (by decide +kernel) l1 (by rw [y1, y0]; decide) R1 (fun m2 q2 n2 R2 l2 y2 => ?_)
  refine G_com (f := 2) (j := 4) (d := 1) (a := 1) h0 hL k30 rfl (by omega) (by decide +kernel) (by decide +kernel) (by decide +kernel) l2 (by rw [y2, y1, y0]; decide) R2 (fun m3 q3 n3 R3 l3 y3 => ?_)
  refine G_com (f := 2) (j := 6) (d := 1) (a := 1) h0 hL k30 rfl (by omega) (by decide +kernel) (by decide +kernel) (by decide +kernel) l3 (by rw [y3, y2, y1, y0]; decide) R3 (fun m4 q4 n4 R4 l4 y4 => ?_)
  rw [k31]
  exact G_last (f := 2) (j := 8) h0 hL (by decide +kernel) l4 R4
theorem M_g3 {k3 : Int32 → nc_Mem → Option (nc_Mem × Int32)} (h0 : p_M L ch M m0) (hL : L ≤ 64) (k30 : ∀ m', k3 0 m' = some (m', 0)) (k31 : ∀ m', k3 1 m' = Option.bind (f_X8_must m' M 59) (fun z => if z.2 = 0 then some (z.1, 0) else some (z.1, 1))) (hq : q ≤ L) (R : p_R M m0 q [] m) : p_gl L ch M m0 3 11 0 q [] (Option.bind (f_X8_number m M 1) (fun (z0 : nc_Mem × Int32) => if z0.2 = 0 then k3 0 z0.1 else Option.bind (f_X8_number z0.1 M 1) (fun (z1 : nc_Mem × Int32) => if z1.2 = 0 then k3 0 z1.1 else Option.bind (f_X8_number z1.1 M 1) (fun (z2 : nc_Mem × Int32) => if z2.2 = 0 then k3 0 z2.1 else Option.bind (f_X8_number z2.1 M 1) (fun (z3 : nc_Mem × Int32) => if z3.2 = 0 then k3 0 z3.1 else Option.bind (f_X8_comma z3.1 M 1) (fun (z4 : nc_Mem × Int32) => if z4.2 = 0 then k3 0 z4.1 else Option.bind (f_X8_comma z4.1 M 3) (fun (z5 : nc_Mem × Int32) => if z5.2 = 0 then k3 0 z5.1 else Option.bind (f_X8_comma z5.1 M 2) (fun (z6 : nc_Mem × Int32) => if z6.2 = 0 then k3 0 z6.1 else k3 1 z6.1)))))))) := by
  refine G_num (f := 3) (j := 0) (d := 1) (a := 1) h0 hL k30 rfl (by omega) (by decide +kernel) (by decide +kernel) hq (by decide) R (fun m0 q0 n0 R0 l0 y0 => ?_)
  refine G_num (f := 3) (j := 1) (d := 1) (a := 1) h0 hL k30 rfl (by omega) (by decide +kernel) (by decide +kernel) l0 (by rw [y0]; decide) R0 (fun m1 q1 n1 R1 l1 y1 => ?_)
  refine G_num (f := 3) (j := 2) (d := 1) (a := 1) h0 hL k30 rfl (by omega) (by decide +kernel) (by decide +kernel) l1 (by rw [y1, y0]; decide) R1 (fun m2 q2 n2 R2 l2 y2 => ?_)
  refine G_num (f := 3) (j := 3) (d := 1) (a := 1) h0 hL k30 rfl (by omega) (by decide +kernel) (by decide +kernel) l2 (by rw [y2, y1, y0]; decide) R2 (fun m3 q3 n3 R3 l3 y3 => ?_)
  refine G_com (f := 3) (j := 4) (d := 1) (a := 1) h0 hL k30 rfl (by omega) (by decide +kernel) (by decide +kernel) (by decide +kernel) l3 (by rw [y3, y2, y1, y0]; decide) R3 (fun m4 q4 n4 R4 l4 y4 => ?_)
  refine G_com (f := 3) (j := 6) (d := 3) (a := 3) h0 hL k30 rfl (by omega) (by decide +kernel) (by decide +kernel) (by decide +kernel) l4 (by rw [y4, y3, y2, y1, y0]; decide) R4 (fun m5 q5 n5 R5 l5 y5 => ?_)
  refine G_com (f := 3) (j := 8) (d := 2) (a := 2) h0 hL k30 rfl (by omega) (by decide +kernel) (by decide +kernel) (by decide +kernel) l5 (by rw [y5, y4, y3, y2, y1, y0]; decide) R5 (fun m6 q6 n6 R6 l6 y6 => ?_)
  rw [k31]
  exact G_last (f := 3) (j := 10) h0 hL (by decide +kernel) l6 R6
theorem p_read_e {st : Nat} {c : Int32} {f r : Nat} (h : p_sg L ch st = c) (hf : p_fo c = f) (h4 : f < 4) (hr : nc_sn f = r) : p_read L ch st = p_run L ch f r 0 (st + 1) [] := by
  unfold p_read
  rw [h, hf, if_pos h4, hr]
theorem p_read_n {st : Nat} (c1 : ¬ p_sg L ch st = 110) (c2 : ¬ p_sg L ch st = 119) (c3 : ¬ p_sg L ch st = 112) (c4 : ¬ p_sg L ch st = 116) : p_read L ch st = (false, st, []) := by
  have e : p_fo (p_sg L ch st) = 4 := by
    unfold p_fo
    rw [if_neg c1, if_neg c2, if_neg c3, if_neg c4]
  unfold p_read
  rw [e, if_neg (by decide)]
theorem M_g0 {st : Nat} {k3 : Int32 → nc_Mem → Option (nc_Mem × Int32)} (h0 : p_M L ch M m0) (hL : L ≤ 64) (k30 : ∀ m', k3 0 m' = some (m', 0)) (k31 : ∀ m', k3 1 m' = Option.bind (f_X8_must m' M 59) (fun z => if z.2 = 0 then some (z.1, 0) else some (z.1, 1))) (hq : q ≤ L) (R : p_R M m0 q [] m) : p_gl L ch M m0 0 2 0 q [] (Option.bind (f_X8_number m M 1) (fun z => k3 z.2 z.1)) := by
  obtain ⟨m2, e2, R2⟩ := M_num (a := 1) (d := 1) h0 hL hq rfl (by omega) (by decide) R
  rw [e2, nc_some_bind]
  have e0 := p_run_d (L := L) (ch := ch) (f := 0) (j := 0) (r := 1) (q := q) (ns := []) (d := 1) (by decide +kernel) (by decide +kernel)
  by_cases c : p_dg L ch 1 q = 0
  · rw [if_pos c] at e0 R2
    rw [c] at R2
    rw [show (if p_dg L ch 1 q = 0 then (0 : Int32) else 1) = 0 from if_pos c, k30]
    exact p_gl_0 e0 R2
  · rw [if_neg c] at e0 R2
    rw [show (if p_dg L ch 1 q = 0 then (0 : Int32) else 1) = 1 from if_neg c, k31]
    unfold p_gl
    rw [e0]
    exact G_last (f := 0) (j := 1) h0 hL (by decide +kernel) (p_dg_L 1 q hq) R2
theorem M_goes {st : Nat} (h0 : p_M L ch M m0) (hL : L ≤ 64) (hst : st ≤ L) (h14 : m0 M 14 = nI st) : ∃ m', f_X8_goesBy m0 M = some (m', if (p_read L ch st).1 = true then 1 else 0) ∧ p_R M m0 (p_read L ch st).2.1 (p_read L ch st).2.2 m' := by
  have R0 : p_R M m0 st [] (nc_up m0 M 16 0) := ⟨(nc_up_ne (by omega)).trans h14, nc_up_same, fun i hi => absurd hi (Nat.not_lt_zero _), fun a k h => nc_up_ne (by omega)⟩
  obtain ⟨m1, e1, R1⟩ := M_must (c := 110) h0 hL hst (by decide) R0
  unfold f_X8_goesBy
  rw [nc_let_eq, e1, nc_some_bind]
  generalize hk3 : (fun (x4 : Int32) (mi5 : nc_Mem) =>
if x4 = 0 then (
some (mi5, (0 : Int32)))
else (
Option.bind (f_X8_must mi5 M 59) (fun (q7 : nc_Mem × Int32) =>
if q7.2 = 0 then (
some (q7.1, 0))
else (
some (q7.1, 1))))) = k3
  rw [nc_let_eq]
  have k30 : ∀ m', k3 0 m' = some (m', 0) := fun m' => by rw [← hk3]; rfl
  have k31 : ∀ m', k3 1 m' = Option.bind (f_X8_must m' M 59) (fun z => if z.2 = 0 then some (z.1, 0) else some (z.1, 1)) := fun m' => by rw [← hk3]; rfl
  clear hk3
  by_cases c1 : p_sg L ch st = 110
  · have hq1 : st < L := p_sg_lt (fun z => by rw [z] at c1; exact absurd c1 (by decide))
    have er := p_read_e (f := 0) (r := 2) c1 (by decide) (by decide) rfl
    rw [if_pos c1] at R1 ⊢
    rw [if_neg (show ¬ (1 : Int32) = 0 by decide), er]
    exact M_g0 (st := st) h0 hL k30 k31 (show st + 1 ≤ L by omega) R1
  · rw [if_neg c1] at R1 ⊢
    rw [if_pos rfl]
    obtain ⟨m2, e2, R2⟩ := M_must (c := 119) h0 hL hst (by decide) R1
    rw [e2, nc_some_bind]
    by_cases c2 : p_sg L ch st = 119
    · have hq1 : st < L := p_sg_lt (fun z => by rw [z] at c2; exact absurd c2 (by decide))
      have er := p_read_e (f := 1) (r := 5) c2 (by decide) (by decide) rfl
      rw [if_pos c2] at R2 ⊢
      rw [if_neg (show ¬ (1 : Int32) = 0 by decide), er]
      exact M_g1 h0 hL k30 k31 (show st + 1 ≤ L by omega) R2
    · rw [if_neg c2] at R2 ⊢
      rw [if_pos rfl]
      obtain ⟨m3, e3, R3⟩ := M_must (c := 112) h0 hL hst (by decide) R2
      rw [e3, nc_some_bind]
      by_cases c3 : p_sg L ch st = 112
      · have hq1 : st < L := p_sg_lt (fun z => by rw [z] at c3; exact absurd c3 (by decide))
        have er := p_read_e (f := 2) (r := 9) c3 (by decide) (by decide) rfl
        rw [if_pos c3] at R3 ⊢
        rw [if_neg (show ¬ (1 : Int32) = 0 by decide), er]
        exact M_g2 h0 hL k30 k31 (show st + 1 ≤ L by omega) R3
      · rw [if_neg c3] at R3 ⊢
        rw [if_pos rfl]
        obtain ⟨m4, e4, R4⟩ := M_must (c := 116) h0 hL hst (by decide) R3
        rw [e4, nc_some_bind]
        by_cases c4 : p_sg L ch st = 116
        · have hq1 : st < L := p_sg_lt (fun z => by rw [z] at c4; exact absurd c4 (by decide))
          have er := p_read_e (f := 3) (r := 11) c4 (by decide) (by decide) rfl
          rw [if_pos c4] at R4 ⊢
          rw [if_neg (show ¬ (1 : Int32) = 0 by decide), er]
          exact M_g3 h0 hL k30 k31 (show st + 1 ≤ L by omega) R4
        · have er := p_read_n c1 c2 c3 c4
          rw [if_neg c4] at R4 ⊢
          rw [if_pos rfl, er]
          simp only
          rw [k30]
          exact ⟨m4, rfl, R4⟩
end MR
