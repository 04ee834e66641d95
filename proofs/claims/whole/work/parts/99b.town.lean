-- TOWN: what the letters hold, and whether they are in form
def p_ds (f : Nat) : Nat → Nat → List Nat
  | 0, _ => []
  | r + 1, j => if p_pt f j then p_ds f r (j + 1) else p_mo f j :: p_ds f r (j + 1)
def p_okL : List Int32 → List Nat → Prop
  | [], [] => True
  | v :: vs, d :: ds => nc_ok v (10 ^ d) ∧ p_okL vs ds
  | _, _ => False
section PL
variable {L : Nat} {ch : Nat → Int32}
theorem p_run_ds {f : Nat} (hf : f < 4) : ∀ r j q ns, j + r = nc_sn f → (p_run L ch f r j q ns).1 = true → ∃ tl, (p_run L ch f r j q ns).2.2 = ns ++ tl ∧ p_okL tl (p_ds f r j)
  | 0, _, _, ns, _, _ => ⟨[], (List.append_nil ns).symm, trivial⟩
  | r + 1, j, q, ns, hj, h => by
    by_cases cp : p_pt f j
    · rw [p_run_p cp] at h ⊢
      have e : p_ds f (r + 1) j = p_ds f r (j + 1) := by
        show (if p_pt f j then _ else _) = _
        rw [if_pos cp]
      rw [e]
      by_cases c : p_sg L ch q = nc_sc f j
      · rw [if_pos c] at h ⊢
        exact p_run_ds hf r (j + 1) (q + 1) ns (by omega) h
      · rw [if_neg c] at h
        cases h
    · rw [p_run_d cp rfl] at h ⊢
      have e : p_ds f (r + 1) j = p_mo f j :: p_ds f r (j + 1) := by
        show (if p_pt f j then _ else _) = _
        rw [if_neg cp]
      rw [e]
      by_cases c : p_dg L ch (p_mo f j) q = 0
      · rw [if_pos c] at h
        cases h
      · rw [if_neg c] at h ⊢
        obtain ⟨tl, t1, t2⟩ := p_run_ds hf r (j + 1) _ _ (by omega) h
        refine ⟨p_val L ch q (p_dg L ch (p_mo f j) q) :: tl, by rw [t1, List.append_assoc]; rfl, ?_, t2⟩
        obtain ⟨-, hm⟩ := p_mo_e f hf j (by omega) cp
        have dl := p_dg_le (L := L) (ch := ch) (p_mo f j) q
        exact nc_ok_mono (p_val_b q _ (by omega) (p_dg_d (p_mo f j) q)) (Nat.pow_le_pow_right (by omega) dl)
theorem p_run_q {f : Nat} : ∀ r j q ns, q ≤ L → (p_run L ch f r j q ns).2.1 ≤ L ∧ ((p_run L ch f r j q ns).1 = true → q + r ≤ (p_run L ch f r j q ns).2.1)
  | 0, _, q, _, h => ⟨h, fun _ => Nat.le_refl _⟩
  | r + 1, j, q, ns, h => by
    by_cases cp : p_pt f j
    · rw [p_run_p cp]
      by_cases c : p_sg L ch q = nc_sc f j
      · rw [if_pos c]
        have hq : q < L := p_sg_lt (fun z => by
          rw [z] at c
          rcases cp with y | y <;> (rw [y] at c; exact absurd c (by decide)))
        obtain ⟨k1, k2⟩ := p_run_q (f := f) r (j + 1) (q + 1) ns (by omega)
        exact ⟨k1, fun z => by have := k2 z; omega⟩
      · rw [if_neg c]
        exact ⟨h, fun z => by cases z⟩
    · rw [p_run_d cp rfl]
      by_cases c : p_dg L ch (p_mo f j) q = 0
      · rw [if_pos c]
        exact ⟨h, fun z => by cases z⟩
      · rw [if_neg c]
        obtain ⟨k1, k2⟩ := p_run_q (f := f) r (j + 1) _ (ns ++ [p_val L ch q (p_dg L ch (p_mo f j) q)]) (p_dg_L (p_mo f j) q h)
        exact ⟨k1, fun z => by have := k2 z; omega⟩
theorem p_sn_2 : ∀ f, f < 4 → 2 ≤ nc_sn f := by decide +kernel
theorem p_read_q {st : Nat} (hst : st ≤ L) : (p_read L ch st).2.1 ≤ L ∧ ((p_read L ch st).1 = true → st + 3 ≤ (p_read L ch st).2.1 ∧ st < L ∧ p_fo (p_sg L ch st) < 4) := by
  unfold p_read
  by_cases c : p_fo (p_sg L ch st) < 4
  · have hst1 : st < L := p_sg_lt (fun z => by rw [z] at c; exact absurd c (by decide))
    have h2 := p_sn_2 _ c
    rw [if_pos c]
    obtain ⟨k1, k2⟩ := p_run_q (ch := ch) (f := p_fo (p_sg L ch st)) (nc_sn (p_fo (p_sg L ch st))) 0 (st + 1) [] (show st + 1 ≤ L by omega)
    exact ⟨k1, fun z => by have := k2 z; exact ⟨by omega, hst1, c⟩⟩
  · rw [if_neg c]
    exact ⟨hst, fun z => by cases z⟩
theorem p_fo_c {c : Int32} (h : p_fo c < 4) : c = 110 ∨ c = 119 ∨ c = 112 ∨ c = 116 := by
  unfold p_fo at h
  by_cases c1 : c = 110
  · exact Or.inl c1
  by_cases c2 : c = 119
  · exact Or.inr (Or.inl c2)
  by_cases c3 : c = 112
  · exact Or.inr (Or.inr (Or.inl c3))
  by_cases c4 : c = 116
  · exact Or.inr (Or.inr (Or.inr c4))
  rw [if_neg c1, if_neg c2, if_neg c3, if_neg c4] at h
  exact absurd h (by decide)
theorem HS_any {S : nc_S} {n b R M st : Nat} (hg : s_good n S) (hR : b + 17 ≤ R) (hst : st ≤ L) (hok : (p_read L ch st).1 = true) : nc_HS n S b R M (p_sg L ch st) (p_read L ch st).2.2 := by
  obtain ⟨⟨pl, ps, th, ws⟩, hs⟩ := hg
  obtain ⟨-, k⟩ := p_read_q (ch := ch) hst
  obtain ⟨-, hst1, hf⟩ := k hok
  rcases p_fo_c hf with c | c | c | c
  · have er := p_read_e (f := 0) (r := 2) c (by decide) (by decide) rfl
    rw [er] at hok ⊢
    obtain ⟨tl, t1, t2⟩ := p_run_ds (by decide) 2 0 (st + 1) [] rfl hok
    rw [t1, c]
    rw [show p_ds 0 2 0 = [1] by decide +kernel] at t2
    match tl, t2 with
    | [v], ⟨⟨d, hd, e⟩, _⟩ =>
      rw [e]
      exact HS_n ws hs hd
  · have er := p_read_e (f := 1) (r := 5) c (by decide) (by decide) rfl
    rw [er] at hok ⊢
    obtain ⟨tl, t1, t2⟩ := p_run_ds (by decide) 5 0 (st + 1) [] rfl hok
    rw [t1, c]
    rw [show p_ds 1 5 0 = [1, 1, 2] by decide +kernel] at t2
    match tl, t2 with
    | [v0, v1, v2], ⟨⟨d0, h0, e0⟩, ⟨d1, h1, e1⟩, ⟨d2, h2, e2⟩, _⟩ =>
      rw [e0, e1, e2]
      exact HS_w ws hs hR h0 h1 h2
  · have er := p_read_e (f := 2) (r := 9) c (by decide) (by decide) rfl
    rw [er] at hok ⊢
    obtain ⟨tl, t1, t2⟩ := p_run_ds (by decide) 9 0 (st + 1) [] rfl hok
    rw [t1, c]
    rw [show p_ds 2 9 0 = [1, 1, 3, 1, 1] by decide +kernel] at t2
    match tl, t2 with
    | [v0, v1, v2, v3, v4], ⟨⟨d0, h0, e0⟩, ⟨d1, h1, e1⟩, ⟨d2, h2, e2⟩, ⟨d3, h3, e3⟩, ⟨d4, h4, e4⟩, _⟩ =>
      rw [e0, e1, e2, e3, e4]
      exact HS_p ws hs hR h0 h1 h2 h3 h4
  · have er := p_read_e (f := 3) (r := 11) c (by decide) (by decide) rfl
    rw [er] at hok ⊢
    obtain ⟨tl, t1, t2⟩ := p_run_ds (by decide) 11 0 (st + 1) [] rfl hok
    rw [t1, c]
    rw [show p_ds 3 11 0 = [1, 1, 1, 1, 1, 3, 2] by decide +kernel] at t2
    match tl, t2 with
    | [v0, v1, v2, v3, v4, v5, v6], ⟨⟨d0, h0, e0⟩, ⟨d1, h1, e1⟩, ⟨d2, h2, e2⟩, ⟨d3, h3, e3⟩, ⟨d4, h4, e4⟩, ⟨d5, h5, e5⟩, ⟨d6, h6, e6⟩, _⟩ =>
      rw [e0, e1, e2, e3, e4, e5, e6]
      exact HS_t ws hs hR h0 h1 h2 h3 h4 h5 h6
end PL
def p_all (L : Nat) (ch : Nat → Int32) : Nat → Nat → Option Nat
  | 0, st => some st
  | k + 1, st => if (p_read L ch st).1 = true then (if L ≤ (p_read L ch st).2.1 then none else p_all L ch k (p_read L ch st).2.1) else some (p_read L ch st).2.1
def p_nx (L : Nat) (ch : Nat → Int32) (k st : Nat) : Option Nat := if L ≤ st then none else p_all L ch k st
theorem p_all_s (L : Nat) (ch : Nat → Int32) (k st : Nat) : p_all L ch (k + 1) st = if (p_read L ch st).1 = true then p_nx L ch k (p_read L ch st).2.1 else some (p_read L ch st).2.1 := rfl
def p_bad (d : Int32) (o : Option Nat) : Int32 := match o with | none => d | some q => nI q
theorem p_neg (q : Nat) (hq : q ≤ 1000) : ¬ 0 ≤ (-1 : Int32) - nI q ∧ (-1 : Int32) - ((-1 : Int32) - nI q) = nI q := by
  have e1 : (-1 : Int32) = iI (-1) := by decide
  rw [e1, iI_nat, iI_sub, iI_sub]
  refine ⟨fun z => ?_, by rw [show (-1 : Int) - (-1 - (q : Int)) = q by omega]⟩
  rw [← iI_0] at z
  have := (iI_le (by omega) (by omega)).mp z
  omega
section BAD
variable {L : Nat} {ch : Nat → Int32} {X M : Nat} {m0 : nc_Mem}
theorem C_bad (h0 : p_C L ch X m0) (hL : L ≤ 64) : ∃ m', f_X1_firstBadSign m0 (X + 52) = some (m', p_bad (-1) (p_all L ch 64 0)) ∧ p_F X m0 m' := by
  have key := nc_loop_ind (z := fun _ _ _ => none) (B := B_X1_firstBadSign_4 (X + 52)) (fun r κ => ∀ i st m, i + r = 64 → 192 ≤ st + 3 * r → (i = 0 ∨ st < L) → st ≤ L → p_F X m0 m → ∃ m', κ (nI st) (nI i) m = some (m', p_bad (-1) (p_all L ch r st)) ∧ p_F X m0 m') (fun r κ ih i st m hi hr h1 h2 hF => by
    obtain ⟨r, rfl⟩ : ∃ r', r = r' + 1 := ⟨r - 1, by omega⟩
    obtain ⟨m1, e1, -, -, F1⟩ := C_read (p_C_F h0 hF) hL h2
    obtain ⟨q1, q2⟩ := p_read_q (ch := ch) h2
    have F1' : p_F X m0 m1 := fun a k h => (F1 a k h).trans (hF a k h)
    unfold B_X1_firstBadSign_4
    rw [if_neg (show ¬ 64 ≤ nI i from nI_ge (b := 64) (by omega) (by omega)), e1, nc_some_bind, p_all_s]
    unfold p_ans
    by_cases c : (p_read L ch st).1 = true
    · obtain ⟨q3, q4, -⟩ := q2 c
      rw [if_pos c, if_pos c]
      unfold p_nx
      simp only
      rw [if_pos (show (0 : Int32) ≤ nI (p_read L ch st).2.1 from nI_le (a := 0) (Nat.zero_le _) (by omega)), (p_C_F h0 F1').1]
      by_cases c2 : L ≤ (p_read L ch st).2.1
      · rw [if_pos c2, if_neg (fun z => absurd ((nI_ltI (by omega) (by omega)).mp z) (by omega))]
        exact ⟨m1, rfl, F1'⟩
      · rw [if_neg c2, if_pos ((nI_ltI (by omega) (by omega)).mpr (by omega)), nc_let_eq, nI_1]
        exact ih r (by omega) (i + 1) _ m1 (by omega) (by omega) (Or.inr (by omega)) (by omega) F1'
    · rw [if_neg c, if_neg c]
      obtain ⟨n1, n2⟩ := p_neg (p_read L ch st).2.1 (by omega)
      simp only
      rw [if_neg n1, n2]
      exact ⟨m1, rfl, F1'⟩) 200 64 (by omega) 0 0 m0 (by omega) (by omega) (Or.inl rfl) (Nat.zero_le _) (fun _ _ _ => rfl)
  exact key
theorem p_G_t {m1 m2 m3 : nc_Mem} (h : p_G M m1 m2) (h' : p_G M m2 m3) : p_G M m1 m3 := fun a k z => (h' a k z).trans (h a k z)
theorem M_fault (h0 : p_M L ch M m0) (hL : L ≤ 64) : ∃ m', f_X8_faultOfForm m0 M = some (m', p_bad (-9) (p_all L ch 64 0)) ∧ p_G M m0 m' := by
  have hG0 : p_G M m0 (nc_up m0 M 14 0) := fun a k h => nc_up_ne (by omega)
  obtain ⟨m1, e1, R1⟩ := M_goes (st := 0) (p_M_G h0 hG0) hL (Nat.zero_le _) nc_up_same
  obtain ⟨q1, q2⟩ := p_read_q (L := L) (ch := ch) (Nat.zero_le _)
  have G1 := p_G_t hG0 R1.2.2.2
  unfold f_X8_faultOfForm
  rw [nc_let_eq, e1, nc_some_bind, show (64 : Nat) = 63 + 1 from rfl, p_all_s]
  by_cases c : (p_read L ch 0).1 = true
  · obtain ⟨q3, q4, -⟩ := q2 c
    rw [if_pos c, if_pos c]
    simp only
    rw [if_neg (show ¬ (1 : Int32) = 0 by decide), nc_let_eq]
    have key := nc_loop_ind (z := fun _ => none) (B := B_X8_faultOfForm_17 M (fun mi5 => some (mi5, (mi5 M 14)))) (fun r κ => ∀ st m, 192 ≤ st + 3 * r → st ≤ L → m M 14 = nI st → p_G M m0 m → ∃ m', κ m = some (m', p_bad (-9) (p_nx L ch r st)) ∧ p_G M m0 m') (fun r κ ih st m hr h2 h14 hG => by
      unfold B_X8_faultOfForm_17
      rw [(p_M_G h0 hG).1, h14]
      by_cases c2 : L ≤ st
      · refine ⟨m, ?_, hG⟩
        rw [if_pos (nI_le c2 (by omega))]
        unfold p_nx
        rw [if_pos c2]
        rfl
      · obtain ⟨r, rfl⟩ : ∃ r', r = r' + 1 := ⟨r - 1, by omega⟩
        obtain ⟨m2, e2, R2⟩ := M_goes (p_M_G h0 hG) hL h2 h14
        obtain ⟨q1, q2⟩ := p_read_q (L := L) (ch := ch) h2
        have G2 := p_G_t hG R2.2.2.2
        rw [if_neg (nI_ge (by omega) (by omega)), e2, nc_some_bind]
        have en : p_nx L ch (r + 1) st = if (p_read L ch st).1 = true then p_nx L ch r (p_read L ch st).2.1 else some (p_read L ch st).2.1 := by
          unfold p_nx
          rw [if_neg c2]
          rfl
        rw [en]
        by_cases c : (p_read L ch st).1 = true
        · obtain ⟨q3, q4, -⟩ := q2 c
          rw [if_pos c, if_pos c]
          simp only
          rw [if_neg (show ¬ (1 : Int32) = 0 by decide)]
          exact ih r (by omega) _ m2 (by omega) q1 R2.1 G2
        · rw [if_neg c, if_neg c]
          simp only
          rw [if_pos trivial, R2.1]
          exact ⟨m2, rfl, G2⟩) 200 63 (by omega) _ m1 (by omega) q1 R1.1 G1
    exact key
  · rw [if_neg c, if_neg c]
    simp only
    rw [if_pos trivial, R1.1]
    exact ⟨m1, rfl, G1⟩
end BAD
