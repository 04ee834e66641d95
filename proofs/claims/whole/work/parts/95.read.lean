-- TOWN: letters are read (pure), and how the class reads them
def p_sg (L : Nat) (ch : Nat → Int32) (i : Nat) : Int32 := if i < L then ch i else -1
abbrev p_dig (x : Int32) : Prop := ¬ x < 48 ∧ ¬ 57 < x
def p_dg (L : Nat) (ch : Nat → Int32) : Nat → Nat → Nat
  | 0, _ => 0
  | k + 1, q => if p_dig (p_sg L ch q) then p_dg L ch k (q + 1) + 1 else 0
def p_vg (L : Nat) (ch : Nat → Int32) (q i : Nat) (x : Int32) : Int32 := 10 * x + p_sg L ch (q + i) - 48
def p_val (L : Nat) (ch : Nat → Int32) (q d : Nat) : Int32 := nc_fo (p_vg L ch q) d 0 0
def p_mo (f j : Nat) : Nat := (nc_sc f j - 48).toNatClampNeg
abbrev p_pt (f j : Nat) : Prop := nc_sc f j = 44 ∨ nc_sc f j = 59
def p_run (L : Nat) (ch : Nat → Int32) (f : Nat) : Nat → Nat → Nat → List Int32 → Bool × Nat × List Int32
  | 0, _, q, ns => (true, q, ns)
  | r + 1, j, q, ns => if p_pt f j then (if p_sg L ch q = nc_sc f j then p_run L ch f r (j + 1) (q + 1) ns else (false, q, ns)) else (if p_dg L ch (p_mo f j) q = 0 then (false, q, ns) else p_run L ch f r (j + 1) (q + p_dg L ch (p_mo f j) q) (ns ++ [p_val L ch q (p_dg L ch (p_mo f j) q)]))
def p_ct (f : Nat) : Nat → Nat → Nat
  | 0, _ => 0
  | r + 1, j => (if p_pt f j then 0 else 1) + p_ct f r (j + 1)
def p_fo (c : Int32) : Nat := if c = 110 then 0 else if c = 119 then 1 else if c = 112 then 2 else if c = 116 then 3 else 4
def p_read (L : Nat) (ch : Nat → Int32) (st : Nat) : Bool × Nat × List Int32 := if p_fo (p_sg L ch st) < 4 then p_run L ch (p_fo (p_sg L ch st)) (nc_sn (p_fo (p_sg L ch st))) 0 (st + 1) [] else (false, st, [])
theorem p_fo_le (c : Int32) : p_fo c < 5 := by
  unfold p_fo
  repeat' split
  all_goals omega
theorem p_fo_e (m : nc_Mem) (o : Nat) (c : Int32) : f_X1_formOf m o c = p_fo c := by
  unfold f_X1_formOf p_fo
  by_cases h1 : c = 110
  · rw [if_pos h1, if_pos h1]
  rw [if_neg h1, if_neg h1]
  by_cases h2 : c = 111
  · subst h2; rfl
  rw [if_neg h2]
  by_cases h3 : c = 112
  · subst h3; rfl
  rw [if_neg h3]
  by_cases h4 : c = 113
  · subst h4; rfl
  rw [if_neg h4]
  by_cases h5 : c = 114
  · subst h5; rfl
  rw [if_neg h5]
  by_cases h6 : c = 115
  · subst h6; rfl
  rw [if_neg h6]
  by_cases h7 : c = 116
  · subst h7; rfl
  rw [if_neg h7]
  by_cases h8 : c = 117
  · subst h8; rfl
  rw [if_neg h8]
  by_cases h9 : c = 118
  · subst h9; rfl
  rw [if_neg h9]
  by_cases h10 : c = 119
  · subst h10; rfl
  rw [if_neg h10, if_neg h10, if_neg h3, if_neg h7]
theorem p_dgI (x : Int32) (h : p_dig x) : ¬ x = -1 := fun e => h.1 (by rw [e]; decide)
section PD
variable {L : Nat} {ch : Nat → Int32}
theorem p_sg_lt {q : Nat} (h : ¬ p_sg L ch q = -1) : q < L := Nat.lt_of_not_le (fun z => h (if_neg (by omega)))
theorem p_dg_le : ∀ k q, p_dg L ch k q ≤ k
  | 0, _ => Nat.le_refl _
  | k + 1, q => by
    unfold p_dg
    split
    · have := p_dg_le k (q + 1); omega
    · omega
theorem p_dg_L : ∀ k q, q ≤ L → q + p_dg L ch k q ≤ L
  | 0, q, h => h
  | k + 1, q, h => by
    unfold p_dg
    split
    · rename_i c
      have := p_dg_L k (q + 1) (p_sg_lt (p_dgI _ c))
      omega
    · omega
theorem p_dg_d : ∀ k q i, i < p_dg L ch k q → p_dig (p_sg L ch (q + i))
  | 0, q, i, h => absurd h (Nat.not_lt_zero _)
  | k + 1, q, i, h => by
    unfold p_dg at h
    split at h
    · rename_i c
      cases i with
      | zero => exact c
      | succ i =>
        have := p_dg_d k (q + 1) i (by omega)
        rw [show q + (i + 1) = q + 1 + i by omega]
        exact this
    · exact absurd h (Nat.not_lt_zero _)
theorem p_dg_s {k q d : Nat} (hd : d < k) (h : ∀ i, i < d → p_dig (p_sg L ch (q + i))) : p_dg L ch k q = d + p_dg L ch (k - d) (q + d) := by
  induction d generalizing k q with
  | zero => rw [Nat.zero_add]; rfl
  | succ d ih =>
    obtain ⟨k, rfl⟩ : ∃ k', k = k' + 1 := ⟨k - 1, by omega⟩
    have h0 := h 0 (by omega)
    rw [Nat.add_zero] at h0
    show (if p_dig (p_sg L ch q) then p_dg L ch k (q + 1) + 1 else 0) = _
    rw [if_pos h0, ih (by omega) (fun i hi => by have := h (i + 1) (by omega); rw [show q + (i + 1) = q + 1 + i by omega] at this; exact this), show k + 1 - (d + 1) = k - d by omega, show q + (d + 1) = q + 1 + d by omega]
    omega
theorem p_dig_v {x : Int32} (h : p_dig x) : ∃ c : Nat, c < 10 ∧ x = nI (48 + c) := by
  have h0 : ¬ x < 0 := fun z => h.1 (Int32.lt_trans z (by decide))
  obtain ⟨j, hj, rfl⟩ := nI_of h0
  have h1 : ¬ j < 48 := fun z => h.1 ((nI_ltI (b := 48) hj (by omega)).mpr z)
  have h2 : ¬ 57 < j := fun z => h.2 ((nI_ltI (a := 57) (by omega) hj).mpr z)
  exact ⟨j - 48, by omega, by rw [show 48 + (j - 48) = j by omega]⟩
theorem p_val_b (q : Nat) : ∀ d, d ≤ 3 → (∀ i, i < d → p_dig (p_sg L ch (q + i))) → nc_ok (p_val L ch q d) (10 ^ d)
  | 0, _, _ => ⟨0, by decide, rfl⟩
  | d + 1, hd, h => by
    obtain ⟨v, hv, ev⟩ := p_val_b q d (by omega) (fun i hi => h i (by omega))
    obtain ⟨c, hc, ec⟩ := p_dig_v (h d (by omega))
    have hp : 10 ^ d ≤ 1000 := Nat.pow_le_pow_right (n := 10) (by omega) (show d ≤ 3 by omega)
    refine ⟨10 * v + c, by rw [Nat.pow_succ]; omega, ?_⟩
    show nc_fo (p_vg L ch q) (d + 1) 0 0 = _
    rw [nc_fo_succ, Nat.zero_add, show nc_fo (p_vg L ch q) d 0 0 = nI v from ev]
    unfold p_vg
    rw [ec, show (10 : Int32) * nI v = nI (10 * v) from (Int32.ofNat_mul 10 v).symm, nI_add, show 10 * v + (48 + c) = 10 * v + c + 48 by omega, ← nI_add]
    exact Int32.add_sub_cancel _ _
end PD
def p_C (L : Nat) (ch : Nat → Int32) (X : Nat) (m : nc_Mem) : Prop := m (X + 52) 2 = nI L ∧ ∀ i, i < 64 → m (X + 52 + 1) i = ch i
section CR
variable {L : Nat} {ch : Nat → Int32} {X : Nat} {m : nc_Mem}
theorem C_sign (h : p_C L ch X m) (hL : L ≤ 64) {q : Nat} (hq : q < 2 ^ 31) : f_X1_signAt m (X + 52) (nI q) = some (p_sg L ch q) := by
  unfold f_X1_signAt p_sg
  rw [if_neg (nI_pos hq), h.1]
  by_cases c : q < L
  · rw [if_pos c, if_neg (nI_ge c (by omega)), if_neg (show ¬ 64 ≤ nI q from nI_ge (b := 64) (by omega) (by omega)), nc_at_nI (by omega) (by omega), h.2 q (by omega)]
  · rw [if_neg c, if_pos (nI_le (by omega) hq)]
theorem C_digits (h : p_C L ch X m) (hL : L ≤ 64) {q k : Nat} (hq : q ≤ 64) (hk : k ≤ 3) : f_X1_digitsAt m (X + 52) (nI q) (nI k) = some (nI (p_dg L ch k q)) := by
  have key := nc_loop_ind (z := fun _ => none) (B := B_X1_digitsAt_2 m (X + 52) (nI q) (nI k)) (fun r κ => ∀ i, i + r = k → κ (nI i) = some (nI (i + p_dg L ch r (q + i)))) (fun r κ ih i hi => by
    unfold B_X1_digitsAt_2
    simp only [nc_let_eq]
    cases r with
    | zero =>
      rw [if_pos (nI_le (by omega) (by omega))]
      rfl
    | succ r =>
      rw [if_neg (nI_ge (by omega) (by omega)), nI_add, C_sign h hL (by omega), nc_some_bind]
      show _ = some (nI (i + if p_dig (p_sg L ch (q + i)) then p_dg L ch r (q + i + 1) + 1 else 0))
      by_cases c1 : p_sg L ch (q + i) < 48
      · rw [if_pos c1, if_neg (fun z => z.1 c1), Nat.add_zero]
      · rw [if_neg c1, nc_some_bind]
        by_cases c2 : 57 < p_sg L ch (q + i)
        · rw [if_pos c2, if_neg (fun z => z.2 c2), Nat.add_zero]
        · rw [if_neg c2, if_pos ⟨c1, c2⟩, nI_1, ih r (by omega) (i + 1) (by omega), show q + (i + 1) = q + i + 1 by omega, show i + 1 + p_dg L ch r (q + i + 1) = i + (p_dg L ch r (q + i + 1) + 1) by omega]) 200 k (by omega) 0 (by omega)
  unfold f_X1_digitsAt
  rw [Nat.zero_add, Nat.add_zero] at key
  exact key
theorem C_value (h : p_C L ch X m) (hL : L ≤ 64) {q d : Nat} (hq : q ≤ 64) (hd : d ≤ 3) : f_X1_valueOf m (X + 52) (nI q) (nI d) = some (p_val L ch q d) := by
  unfold f_X1_valueOf p_val
  exact nc_for2 (z := fun _ _ => none) (B := B_X1_valueOf_5 m (X + 52) (nI q) (nI d)) (p_vg L ch q) some d (fun rc x j hj => by
    unfold B_X1_valueOf_5
    simp only [nc_let_eq]
    rw [if_neg (nI_ge hj (by omega)), nI_add, C_sign h hL (by omega), nc_some_bind, nI_1]
    rfl) (fun rc x => by
    unfold B_X1_valueOf_5
    rw [if_pos (nI_le (Nat.le_refl _) (by omega))]) (by omega)
def p_ans (x : Bool × Nat × List Int32) : Int32 := if x.1 = true then nI x.2.1 else (-1) - nI x.2.1
theorem p_mo_e : ∀ f, f < 4 → ∀ j, j < nc_sn f → ¬ p_pt f j → nc_sc f j - 48 = nI (p_mo f j) ∧ p_mo f j ≤ 3 := by decide +kernel
theorem p_sn_le : ∀ f, f < 4 → nc_sn f ≤ 20 := by decide +kernel
theorem p_pt_if {α : Type} {f j : Nat} {a b : α} (h : p_pt f j) : (if nc_sc f j = 44 then a else if nc_sc f j = 59 then a else b) = a := by
  rcases h with h | h
  · rw [if_pos h]
  · rw [if_pos h]
    split <;> rfl
def p_N (X : Nat) (ns : List Int32) (m : nc_Mem) : Prop := ∀ i, i < ns.length → m (X + 52 + 2) i = ns.getD i 0
def p_F (X : Nat) (m0 m : nc_Mem) : Prop := ∀ a k, ¬ ((a = X + 52 ∧ k = 3) ∨ a = X + 52 + 2) → m a k = m0 a k
theorem p_C_F {m0 : nc_Mem} (h : p_C L ch X m0) (hF : p_F X m0 m) : p_C L ch X m := ⟨(hF _ _ (by omega)).trans h.1, fun i hi => (hF _ _ (by omega)).trans (h.2 i hi)⟩
theorem p_N_up {ns : List Int32} {v : Int32} (h : p_N X ns m) : p_N X (ns ++ [v]) (nc_up m (X + 52 + 2) ns.length v) := by
  intro i hi
  rw [List.length_append, List.length_singleton] at hi
  by_cases c : i = ns.length
  · rw [c, nc_up_same, List.getD_eq_getElem?_getD, List.getElem?_append_right (Nat.le_refl _), Nat.sub_self]
    rfl
  · rw [nc_up_ne (by omega), h i (by omega), List.getD_eq_getElem?_getD, List.getD_eq_getElem?_getD, List.getElem?_append_left (by omega)]
theorem C_run {m0 mi2 : nc_Mem} {f : Nat} (h0 : p_C L ch X m0) (hL : L ≤ 64) (hf : f < 4) (hfm : f_X1_formOf mi2 (X + 52) (mi2 (X + 52) 3) = f) : ∀ n r, r < n → ∀ j q ns m, j + r = nc_sn f → q ≤ L → ns.length + p_ct f r j ≤ 7 → p_N X ns m → p_F X m0 m → ∃ m', nc_loop (fun _ _ _ _ => none) (B_X1_read_39 (X + 52) mi2) n (nI q) (nI ns.length) (nI j) m = some (m', p_ans (p_run L ch f r j q ns)) ∧ ((p_run L ch f r j q ns).1 = true → p_N X (p_run L ch f r j q ns).2.2 m') ∧ m' (X + 52) 3 = m (X + 52) 3 ∧ p_F X m0 m' := by
  refine nc_loop_ind (z := fun _ _ _ _ => none) (B := B_X1_read_39 (X + 52) mi2) (fun r κ => ∀ j q ns m, j + r = nc_sn f → q ≤ L → ns.length + p_ct f r j ≤ 7 → p_N X ns m → p_F X m0 m → ∃ m', κ (nI q) (nI ns.length) (nI j) m = some (m', p_ans (p_run L ch f r j q ns)) ∧ ((p_run L ch f r j q ns).1 = true → p_N X (p_run L ch f r j q ns).2.2 m') ∧ m' (X + 52) 3 = m (X + 52) 3 ∧ p_F X m0 m') (fun r κ ih j q ns m hj hq hc hN hF => ?_)
  have hs := p_sn_le f hf
  unfold B_X1_read_39
  rw [hfm]
  simp only [nc_let_eq]
  cases r with
  | zero =>
    refine ⟨m, ?_, fun _ => hN, rfl, hF⟩
    rw [if_pos (show Int32.ofNat (nc_sn f) ≤ nI j from nI_le (by omega) (by omega))]
    rfl
  | succ r =>
    have hC := p_C_F h0 hF
    rw [if_neg (show ¬ Int32.ofNat (nc_sn f) ≤ nI j from nI_ge (by omega) (by omega)), nc_at_nI (by omega) (by omega)]
    by_cases cp : p_pt f j
    · have e0 : p_run L ch f (r + 1) j q ns = if p_sg L ch q = nc_sc f j then p_run L ch f r (j + 1) (q + 1) ns else (false, q, ns) := by
        show (if p_pt f j then _ else _) = _
        rw [if_pos cp]
      have c0 : p_ct f (r + 1) j = p_ct f r (j + 1) := by
        show (if p_pt f j then 0 else 1) + p_ct f r (j + 1) = _
        rw [if_pos cp, Nat.zero_add]
      rw [e0, C_sign hC hL (by omega), nc_some_bind]
      by_cases ce : p_sg L ch q = nc_sc f j
      · have hq1 : q < L := p_sg_lt (fun z => by
          rw [z] at ce
          rcases cp with c | c <;> (rw [c] at ce; exact absurd ce (by decide)))
        rw [if_pos ce, p_pt_if cp, if_pos ce]
        rw [c0] at hc
        obtain ⟨m', e1, k1, k2, k3⟩ := ih r (by omega) (j + 1) (q + 1) ns m (by omega) (by omega) hc hN hF
        refine ⟨m', ?_, k1, k2, k3⟩
        rw [← e1, ← nI_1, ← nI_1]
        rfl
      · rw [if_neg ce, p_pt_if cp, if_neg ce]
        exact ⟨m, rfl, (fun z => by cases z), rfl, hF⟩
    · have e0 : p_run L ch f (r + 1) j q ns = if p_dg L ch (p_mo f j) q = 0 then (false, q, ns) else p_run L ch f r (j + 1) (q + p_dg L ch (p_mo f j) q) (ns ++ [p_val L ch q (p_dg L ch (p_mo f j) q)]) := by
        show (if p_pt f j then _ else _) = _
        rw [if_neg cp]
      have c0 : p_ct f (r + 1) j = 1 + p_ct f r (j + 1) := by
        show (if p_pt f j then 0 else 1) + p_ct f r (j + 1) = _
        rw [if_neg cp]
      obtain ⟨em, hm3⟩ := p_mo_e f hf j (by omega) cp
      have d1 := p_dg_le (L := L) (ch := ch) (p_mo f j) q
      have d2 := p_dg_L (L := L) (ch := ch) (p_mo f j) q hq
      have hF1 : p_F X m0 (nc_up m (X + 52 + 2) ns.length (p_val L ch q (p_dg L ch (p_mo f j) q))) := fun a k h => (nc_up_na (by omega)).trans (hF a k h)
      rw [if_neg (fun z => cp (Or.inl z)), if_neg (fun z => cp (Or.inr z)), if_neg (show ¬ 7 ≤ nI ns.length from nI_ge (b := 7) (by omega) (by omega)), em, C_digits hC hL (by omega) hm3, nc_some_bind, C_value hC hL (by omega) (by omega), nc_some_bind, nc_at_nI (by omega) (by omega), nI_1, e0]
      by_cases cd : p_dg L ch (p_mo f j) q = 0
      · rw [if_pos cd, if_pos (show nI (p_dg L ch (p_mo f j) q) = 0 by rw [cd]; rfl)]
        exact ⟨_, rfl, (fun z => by cases z), nc_up_na (by omega), hF1⟩
      · rw [if_neg cd, if_neg (show ¬ nI (p_dg L ch (p_mo f j) q) = 0 from fun z => cd ((nI_eq (b := 0) (by omega) (by omega)).mp z)), nI_add, nI_1]
        have hN1 := p_N_up (v := p_val L ch q (p_dg L ch (p_mo f j) q)) hN
        obtain ⟨m', e1, k1, k2, k3⟩ := ih r (by omega) (j + 1) (q + p_dg L ch (p_mo f j) q) (ns ++ [p_val L ch q (p_dg L ch (p_mo f j) q)]) _ (by omega) d2 (by rw [List.length_append, List.length_singleton]; omega) hN1 hF1
        rw [List.length_append, List.length_singleton] at e1
        exact ⟨m', e1, k1, k2.trans (nc_up_na (by omega)), k3⟩
theorem p_ct_0 : ∀ f, f < 4 → p_ct f (nc_sn f) 0 ≤ 7 ∧ ¬ Int32.ofNat (nc_sn f) = 0 := by decide +kernel
theorem C_read {m0 : nc_Mem} (h0 : p_C L ch X m0) (hL : L ≤ 64) {st : Nat} (hst : st ≤ L) : ∃ m', f_X1_read m0 (X + 52) (nI st) = some (m', p_ans (p_read L ch st)) ∧ ((p_read L ch st).1 = true → p_N X (p_read L ch st).2.2 m') ∧ m' (X + 52) 3 = p_sg L ch st ∧ p_F X m0 m' := by
  have e3 : nc_up m0 (X + 52) 3 (p_sg L ch st) (X + 52) 3 = p_sg L ch st := nc_up_same
  have F1 : p_F X m0 (nc_up m0 (X + 52) 3 (p_sg L ch st)) := fun a k h => nc_up_ne (by omega)
  unfold f_X1_read
  rw [C_sign h0 hL (by omega), nc_some_bind]
  simp only [nc_let_eq]
  rw [e3, p_fo_e]
  unfold nc_s5
  rw [if_pos (p_fo_le _)]
  unfold p_read
  by_cases c : p_fo (p_sg L ch st) < 4
  · have hst1 : st < L := p_sg_lt (fun z => by rw [z] at c; exact absurd c (by decide))
    obtain ⟨k1, k2⟩ := p_ct_0 _ c
    have hs := p_sn_le _ c
    rw [if_pos c, if_neg k2, if_pos rfl, nI_1]
    obtain ⟨m', e1, n1, n2, n3⟩ := C_run (mi2 := nc_up m0 (X + 52) 3 (p_sg L ch st)) h0 hL c (by rw [e3, p_fo_e]) 200 (nc_sn (p_fo (p_sg L ch st))) (by omega) 0 (st + 1) [] (nc_up m0 (X + 52) 3 (p_sg L ch st)) (by omega) (by omega) (by rw [List.length_nil, Nat.zero_add]; exact k1) (fun i hi => absurd hi (Nat.not_lt_zero _)) F1
    exact ⟨m', e1, n1, n2.trans e3, n3⟩
  · have c4 : p_fo (p_sg L ch st) = 4 := by have := p_fo_le (p_sg L ch st); omega
    rw [if_neg c, c4, if_neg (by decide)]
    exact ⟨_, rfl, (fun z => by cases z), e3, F1⟩
end CR
