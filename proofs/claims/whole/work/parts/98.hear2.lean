-- TOWN: the four kinds of statements
def s_good (n : Nat) (S : nc_S) : Prop := (∃ pl ps th, s_wf S n pl ps th) ∧ s_sym S
def nc_nC (R : Nat) (ns : List Int32) (m : nc_Mem) : Prop := ∀ i, i < ns.length → m R i = ns.getD i 0
def nc_fH (M : Nat) (m m' : nc_Mem) : Prop := ∀ a k, ¬ ((a = M ∧ (k = 5 ∨ k = 7 ∨ k = 9)) ∨ (M + 5 ≤ a ∧ a < M + 26)) → m' a k = m a k
def nc_HS (n : Nat) (S : nc_S) (b R M : Nat) (c : Int32) (ns : List Int32) : Prop := (∃ S', s_good n S' ∧ (∀ m, vC m b = S → nc_nC R ns m → ∃ m', f_X5_hear m b c R = some (m', 1) ∧ vC m' b = S' ∧ ∀ a k, ¬ (b ≤ a ∧ a < b + 17) → m' a k = m a k) ∧ (∀ m, vM m M = S → nc_nC (M + 26) ns m → ∃ m', f_X8_comes m M c = some (m', 1) ∧ vM m' M = S' ∧ nc_fH M m m')) ∨ ((∀ m, vC m b = S → nc_nC R ns m → f_X5_hear m b c R = some (m, 0)) ∧ (∀ m, vM m M = S → nc_nC (M + 26) ns m → f_X8_comes m M c = some (m, 0)))
def s_setPl (S : nc_S) (v : Int32) : nc_S := (v, s_ps S, s_th S, s_lw S, s_w S, s_P S, s_T S)
def s_setW (S : nc_S) (a c : Nat) (v : Int32) : nc_S := (s_pl S, s_ps S, s_th S, s_lw S, (fun x y => if (x = a ∧ y = c) ∨ (x = c ∧ y = a) then v else s_w S x y), s_P S, s_T S)
def s_addP (S : nc_S) (ps : Nat) (row : Nat → Int32) : nc_S := (s_pl S, nI (ps + 1), s_th S, s_lw S, s_w S, (fun p k => if p = ps ∧ k < 7 then row k else s_P S p k), s_T S)
def s_addT (S : nc_S) (th : Nat) (row : Nat → Int32) : nc_S := (s_pl S, s_ps S, nI (th + 1), s_lw S, s_w S, s_P S, fun p k => if p = th ∧ k < 10 then row k else s_T S p k)
section HV
variable {m m' : nc_Mem} {b M a c p : Nat} {v : Int32} {row : Nat → Int32}
theorem vC_uPl : vC (nc_up m b 4 v) b = s_setPl (vC m b) v := by
  simp only [vC, s_setPl, s_pl, s_ps, s_th, s_lw, s_w, s_P, s_T, Prod.mk.injEq]
  refine ⟨nc_up_same, nc_up_ne (by omega), nc_up_ne (by omega), nc_up_ne (by omega), ?_, ?_, ?_⟩ <;> funext i j <;> split <;> first | rfl | exact nc_up_na (by omega)
theorem vM_uPl : vM (nc_up m M 5 v) M = s_setPl (vM m M) v := by
  simp only [vM, s_setPl, s_pl, s_ps, s_th, s_lw, s_w, s_P, s_T, Prod.mk.injEq]
  refine ⟨nc_up_same, nc_up_ne (by omega), nc_up_ne (by omega), nc_up_ne (by omega), ?_, ?_, ?_⟩ <;> funext i j <;> split <;> first | rfl | exact nc_up_na (by omega)
theorem vC_uW (ha : a < 7) (hc : c < 7) : vC (nc_up (nc_up m (b + 3) (7 * a + c) v) (b + 3) (7 * c + a) v) b = s_setW (vC m b) a c v := by
  simp only [vC, s_setW, s_pl, s_ps, s_th, s_lw, s_w, s_P, s_T, Prod.mk.injEq]
  refine ⟨(nc_up_na (by omega)).trans (nc_up_na (by omega)), (nc_up_na (by omega)).trans (nc_up_na (by omega)), (nc_up_na (by omega)).trans (nc_up_na (by omega)), (nc_up_na (by omega)).trans (nc_up_na (by omega)), ?_, ?_, ?_⟩
  · funext i j
    by_cases h : i < 7 ∧ j < 7
    · rw [if_pos h, if_pos h]
      by_cases h1 : i = c ∧ j = a
      · rw [h1.1, h1.2, nc_up_same, if_pos (Or.inr ⟨rfl, rfl⟩)]
      · rw [nc_up_ne (by omega)]
        by_cases h2 : i = a ∧ j = c
        · rw [h2.1, h2.2, nc_up_same, if_pos (Or.inl ⟨rfl, rfl⟩)]
        · rw [nc_up_ne (by omega), if_neg (fun z => z.elim h2 h1)]
    · rw [if_neg h, if_neg h, if_neg (by omega)]
  · funext i j
    split
    · exact (nc_up_na (by omega)).trans (nc_up_na (by omega))
    · rfl
  · funext i j
    split
    · exact (nc_up_na (by omega)).trans (nc_up_na (by omega))
    · rfl
theorem vM_uW (ha : a < 7) (hc : c < 7) : vM (nc_up (nc_up m (M + 4 + 1 + a) c v) (M + 4 + 1 + c) a v) M = s_setW (vM m M) a c v := by
  simp only [vM, s_setW, s_pl, s_ps, s_th, s_lw, s_w, s_P, s_T, Prod.mk.injEq]
  refine ⟨(nc_up_na (by omega)).trans (nc_up_na (by omega)), (nc_up_na (by omega)).trans (nc_up_na (by omega)), (nc_up_na (by omega)).trans (nc_up_na (by omega)), (nc_up_na (by omega)).trans (nc_up_na (by omega)), ?_, ?_, ?_⟩
  · funext i j
    by_cases h : i < 7 ∧ j < 7
    · rw [if_pos h, if_pos h]
      by_cases h1 : i = c ∧ j = a
      · rw [h1.1, h1.2, show M + 5 + c = M + 4 + 1 + c from rfl, nc_up_same, if_pos (Or.inr ⟨rfl, rfl⟩)]
      · rw [nc_up_ne (by omega)]
        by_cases h2 : i = a ∧ j = c
        · rw [h2.1, h2.2, show M + 5 + a = M + 4 + 1 + a from rfl, nc_up_same, if_pos (Or.inl ⟨rfl, rfl⟩)]
        · rw [nc_up_ne (by omega), if_neg (fun z => z.elim h2 h1)]
    · rw [if_neg h, if_neg h, if_neg (by omega)]
  · funext i j
    split
    · exact (nc_up_na (by omega)).trans (nc_up_na (by omega))
    · rfl
  · funext i j
    split
    · exact (nc_up_na (by omega)).trans (nc_up_na (by omega))
    · rfl
theorem vC_aP (hp : p < 6) (h : ∀ a k, m' a k = if a = b + 5 + p ∧ k < 7 then row k else if a = b ∧ k = 5 then nI (p + 1) else m a k) : vC m' b = s_addP (vC m b) p row := by
  have no : ∀ a k, ¬ (a = b + 5 + p ∧ k < 7) → ¬ (a = b ∧ k = 5) → m' a k = m a k := fun a k h1 h2 => by rw [h, if_neg h1, if_neg h2]
  simp only [vC, s_addP, s_pl, s_ps, s_th, s_lw, s_w, s_P, s_T, Prod.mk.injEq]
  refine ⟨no _ _ (by omega) (by omega), ?_, no _ _ (by omega) (by omega), no _ _ (by omega) (by omega), ?_, ?_, ?_⟩
  · rw [h, if_neg (by omega), if_pos ⟨rfl, rfl⟩]
  · funext i j
    split
    · exact no _ _ (by omega) (by omega)
    · rfl
  · funext i j
    by_cases c1 : i < 6 ∧ j < 7
    · rw [if_pos c1, h]
      by_cases c2 : i = p
      · rw [if_pos (by omega), if_pos ⟨c2, c1.2⟩]
      · rw [if_neg (by omega), if_neg (by omega), if_neg (fun z => c2 z.1), if_pos c1]
    · rw [if_neg c1, if_neg (by omega), if_neg c1]
  · funext i j
    split
    · exact no _ _ (by omega) (by omega)
    · rfl
theorem vC_aT (hp : p < 6) (h : ∀ a k, m' a k = if a = b + 11 + p ∧ k < 10 then row k else if a = b ∧ k = 6 then nI (p + 1) else m a k) : vC m' b = s_addT (vC m b) p row := by
  have no : ∀ a k, ¬ (a = b + 11 + p ∧ k < 10) → ¬ (a = b ∧ k = 6) → m' a k = m a k := fun a k h1 h2 => by rw [h, if_neg h1, if_neg h2]
  simp only [vC, s_addT, s_pl, s_ps, s_th, s_lw, s_w, s_P, s_T, Prod.mk.injEq]
  refine ⟨no _ _ (by omega) (by omega), no _ _ (by omega) (by omega), ?_, no _ _ (by omega) (by omega), ?_, ?_, ?_⟩
  · rw [h, if_neg (by omega), if_pos ⟨rfl, rfl⟩]
  · funext i j
    split
    · exact no _ _ (by omega) (by omega)
    · rfl
  · funext i j
    split
    · exact no _ _ (by omega) (by omega)
    · rfl
  · funext i j
    by_cases c1 : i < 6 ∧ j < 10
    · rw [if_pos c1, h]
      by_cases c2 : i = p
      · rw [if_pos (by omega), if_pos ⟨c2, c1.2⟩]
      · rw [if_neg (by omega), if_neg (by omega), if_neg (fun z => c2 z.1), if_pos c1]
    · rw [if_neg c1, if_neg (by omega), if_neg c1]
theorem vM_aP (hp : p < 6) (h : ∀ a k, m' a k = if a = M + 13 + p ∧ k < 7 then row k else if a = M ∧ k = 7 then nI (p + 1) else m a k) : vM m' M = s_addP (vM m M) p row := by
  have no : ∀ a k, ¬ (a = M + 13 + p ∧ k < 7) → ¬ (a = M ∧ k = 7) → m' a k = m a k := fun a k h1 h2 => by rw [h, if_neg h1, if_neg h2]
  simp only [vM, s_addP, s_pl, s_ps, s_th, s_lw, s_w, s_P, s_T, Prod.mk.injEq]
  refine ⟨no _ _ (by omega) (by omega), ?_, no _ _ (by omega) (by omega), no _ _ (by omega) (by omega), ?_, ?_, ?_⟩
  · rw [h, if_neg (by omega), if_pos ⟨rfl, rfl⟩]
  · funext i j
    split
    · exact no _ _ (by omega) (by omega)
    · rfl
  · funext i j
    by_cases c1 : i < 6 ∧ j < 7
    · rw [if_pos c1, h]
      by_cases c2 : i = p
      · rw [if_pos (by omega), if_pos ⟨c2, c1.2⟩]
      · rw [if_neg (by omega), if_neg (by omega), if_neg (fun z => c2 z.1), if_pos c1]
    · rw [if_neg c1, if_neg (by omega), if_neg c1]
  · funext i j
    split
    · exact no _ _ (by omega) (by omega)
    · rfl
theorem vM_aT (hp : p < 6) (h : ∀ a k, m' a k = if a = M + 20 + p ∧ k < 10 then row k else if a = M ∧ k = 9 then nI (p + 1) else m a k) : vM m' M = s_addT (vM m M) p row := by
  have no : ∀ a k, ¬ (a = M + 20 + p ∧ k < 10) → ¬ (a = M ∧ k = 9) → m' a k = m a k := fun a k h1 h2 => by rw [h, if_neg h1, if_neg h2]
  simp only [vM, s_addT, s_pl, s_ps, s_th, s_lw, s_w, s_P, s_T, Prod.mk.injEq]
  refine ⟨no _ _ (by omega) (by omega), no _ _ (by omega) (by omega), ?_, no _ _ (by omega) (by omega), ?_, ?_, ?_⟩
  · rw [h, if_neg (by omega), if_pos ⟨rfl, rfl⟩]
  · funext i j
    split
    · exact no _ _ (by omega) (by omega)
    · rfl
  · funext i j
    split
    · exact no _ _ (by omega) (by omega)
    · rfl
  · funext i j
    by_cases c1 : i < 6 ∧ j < 10
    · rw [if_pos c1, h]
      by_cases c2 : i = p
      · rw [if_pos (by omega), if_pos ⟨c2, c1.2⟩]
      · rw [if_neg (by omega), if_neg (by omega), if_neg (fun z => c2 z.1), if_pos c1]
    · rw [if_neg c1, if_neg (by omega), if_neg c1]
theorem C_L' {pl v : Nat} (h : m b 4 = nI pl) (h7 : pl ≤ 7) (hv : v < 2 ^ 31) : f_X5_isPlace m b (nI v) = if v < pl then 1 else 0 := by
  by_cases c : v < pl
  · rw [if_pos c, C_isL h h7 c]
  · rw [if_neg c, C_isLn h (Or.inr (nI_le (by omega) hv))]
theorem C_P' {ps v : Nat} (h : m b 5 = nI ps) (h6 : ps ≤ 6) (hv : v < 2 ^ 31) : f_X5_isPerson m b (nI v) = if v < ps then 1 else 0 := by
  by_cases c : v < ps
  · rw [if_pos c, C_isP h h6 c]
  · rw [if_neg c, C_isPn h (Or.inr (nI_le (by omega) hv))]
theorem M_L' {pl v : Nat} (h : m M 5 = nI pl) (h7 : pl ≤ 7) (hv : v < 2 ^ 31) : f_X8_isPlace m M (nI v) = some (if v < pl then 1 else 0) := by
  by_cases c : v < pl
  · rw [if_pos c, M_isL h h7 c]
  · rw [if_neg c, M_isLn h h7 (Or.inr (nI_le (by omega) hv))]
theorem M_P' {ps v : Nat} (h : m M 7 = nI ps) (h6 : ps ≤ 6) (hv : v < 2 ^ 31) : f_X8_isPerson m M (nI v) = some (if v < ps then 1 else 0) := by
  by_cases c : v < ps
  · rw [if_pos c, M_isP h h6 c]
  · rw [if_neg c, M_isPn h h6 (Or.inr (nI_le (by omega) hv))]
end HV
section HR
variable {m : nc_Mem} {b R M : Nat}
theorem hear_n : f_X5_hear m b 110 R = Option.bind (f_X5_hearPlaces m b (m R 0)) (fun q => nc_zb q.2 (some (q.1, q.2))) := by
  unfold f_X5_hear
  rw [if_pos rfl]
theorem hear_p : f_X5_hear m b 112 R = Option.bind (f_X5_hearPerson m b R) (fun q => nc_zb q.2 (some (q.1, q.2))) := by
  unfold f_X5_hear
  rw [if_neg (by decide), if_neg (by decide), if_pos rfl]
theorem hear_t : f_X5_hear m b 116 R = Option.bind (f_X5_hearThing m b R) (fun q => nc_zb q.2 (some (q.1, q.2))) := by
  unfold f_X5_hear
  rw [if_neg (by decide), if_neg (by decide), if_neg (by decide), if_neg (by decide), if_neg (by decide), if_neg (by decide), if_pos rfl]
theorem hear_w : f_X5_hear m b 119 R = Option.bind (f_X5_hearWay m b (m R 0) (m R 1) (m R 2)) (fun q => nc_zb q.2 (some (q.1, q.2))) := by
  unfold f_X5_hear
  rw [if_neg (by decide), if_neg (by decide), if_neg (by decide), if_neg (by decide), if_neg (by decide), if_neg (by decide), if_neg (by decide), if_neg (by decide), if_neg (by decide), if_pos rfl]
theorem comes_n : f_X8_comes m M 110 = Option.bind (f_X8_placesCome m M) (fun q => nc_zb q.2 (some (q.1, q.2))) := by
  unfold f_X8_comes
  rw [if_pos rfl]
theorem comes_p : f_X8_comes m M 112 = Option.bind (f_X8_personComes m M) (fun q => nc_zb q.2 (some (q.1, q.2))) := by
  unfold f_X8_comes
  rw [if_neg (by decide), if_pos rfl]
theorem comes_w : f_X8_comes m M 119 = Option.bind (f_X8_wayComes m M) (fun q => nc_zb q.2 (some (q.1, q.2))) := by
  unfold f_X8_comes
  rw [if_neg (by decide), if_neg (by decide), if_pos rfl]
theorem comes_t : f_X8_comes m M 116 = Option.bind (f_X8_thingComes m M) (fun q => nc_zb q.2 (some (q.1, q.2))) := by
  unfold f_X8_comes
  rw [if_neg (by decide), if_neg (by decide), if_neg (by decide)]
theorem zb_1 {o : Option (nc_Mem × Int32)} {m' : nc_Mem} (h : o = some (m', 1)) : Option.bind o (fun q => nc_zb q.2 (some (q.1, q.2))) = some (m', 1) := by rw [h]; rfl
theorem zb_0 {o : Option (nc_Mem × Int32)} {m' : nc_Mem} (h : o = some (m', 0)) : Option.bind o (fun q => nc_zb q.2 (some (q.1, q.2))) = some (m', 0) := by rw [h]; rfl
end HR
section HK
variable {S : nc_S} {n pl ps th b R M : Nat}
theorem HS_n (ws : s_wf S n pl ps th) (hs : s_sym S) {v : Nat} (hv : v < 10) : nc_HS n S b R M 110 [nI v] := by
  obtain ⟨w1, w2, w3, w4, w5, w6, w7, w8, w9, w10, w11⟩ := id ws
  have hi7 : s_hiP S ps th 7 := by
    have lt : ∀ x : Int32, nc_ok x pl → x < 7 := fun x ⟨d, hd, e⟩ => by
      rw [e]
      exact (nI_ltI (b := 7) (by omega) (by omega)).mpr (by omega)
    refine ⟨fun a c ha hc hw => (nI_ltI (b := 7) (by omega) (by omega)).mpr ha, fun p hp => ?_, fun t ht => ?_⟩
    · obtain ⟨a0, a1, -, -, -, a5, -⟩ := w10 p hp
      exact ⟨lt _ a0, lt _ a1, lt _ a5⟩
    · obtain ⟨-, -, a2, a3, -, -, -, a7, -⟩ := w11 t ht
      refine ⟨lt _ a2, lt _ a3, fun h => ?_⟩
      rcases a7 with a7 | ⟨⟨q, hq, e⟩, -⟩
      · exact lt _ a7
      · exact absurd (show (10 : Int32) ≤ s_T S t 7 by rw [e]; exact nI_le (a := 10) (by omega) (by omega)) h
  by_cases c : (2 ≤ v ∧ v ≤ 7) ∧ s_hiP S ps th (nI v)
  · obtain ⟨⟨c1, c2⟩, c3⟩ := c
    have back : ∀ (x : Int32) (B : Nat), nc_ok x B → B < 2 ^ 31 → x < nI v → nc_ok x v := fun x B ⟨d, hd, e⟩ hB h => by
      rw [e] at h
      exact ⟨d, (nI_ltI (by omega) (by omega)).mp h, e⟩
    refine Or.inl ⟨s_setPl S (nI v), ⟨⟨v, ps, th, rfl, c1, c2, w4, w5, w6, w7, w8, fun a k ha hk => ⟨(w9 a k ha hk).1, fun hne => ?_⟩, fun p hp => ?_, fun t ht => ?_⟩, hs⟩, fun m hm hn => ?_, fun m hm hn => ?_⟩
    · have pos : ∀ a k, a < 7 → k < 7 → ¬ s_w S a k = 0 → a < v := fun a k ha hk hne => by
        have := c3.1 a k ha hk (fun z => hne (by
          obtain ⟨d, hd, e⟩ := (w9 a k ha hk).1
          rw [e] at z ⊢
          have := (nI_leI (b := 0) (by omega) (by omega)).mp z
          rw [show d = 0 by omega]
          rfl))
        exact (nI_ltI (by omega) (by omega)).mp this
      refine ⟨pos a k ha hk hne, pos k a hk ha (fun z => hne ((hs a k).trans z)), ((w9 a k ha hk).2 hne).2.2⟩
    · obtain ⟨a0, a1, a2, a3, a4, a5, a6⟩ := w10 p hp
      obtain ⟨b0, b1, b5⟩ := c3.2.1 p hp
      exact ⟨back _ _ a0 (by omega) b0, back _ _ a1 (by omega) b1, a2, a3, a4, back _ _ a5 (by omega) b5, a6⟩
    · obtain ⟨a0, a1, a2, a3, a4, a5, a6, a7, a8, a9⟩ := w11 t ht
      obtain ⟨b2, b3, b7⟩ := c3.2.2 t ht
      refine ⟨a0, a1, back _ _ a2 (by omega) b2, back _ _ a3 (by omega) b3, a4, a5, a6, ?_, a8, a9⟩
      rcases a7 with a7 | a7
      · refine Or.inl (back _ _ a7 (by omega) (b7 (fun z => ?_)))
        obtain ⟨d, hd, e⟩ := a7
        rw [e] at z
        have := (nI_leI (a := 10) (by omega) (by omega)).mp z
        omega
      · exact Or.inr a7
    · obtain ⟨h, e, hh⟩ := C_high hm ws
      refine ⟨nc_up m b 4 (nI v), ?_, by rw [vC_uPl, hm], fun a k ha => nc_up_na (by omega)⟩
      rw [hear_n, hn 0 (by simp)]
      refine zb_1 ?_
      show f_X5_hearPlaces m b (nI v) = _
      unfold f_X5_hearPlaces
      simp only [nc_let_eq]
      rw [if_neg (show ¬ nI v < 2 from fun z => absurd ((nI_ltI (b := 2) (by omega) (by omega)).mp z) (by omega)), if_neg (show ¬ 7 < nI v from fun z => absurd ((nI_ltI (a := 7) (by omega) (by omega)).mp z) (by omega)), e, nc_some_bind, if_pos ((hh _).mpr ⟨Int32.lt_of_lt_of_le (by decide) (nI_le (a := 0) (Nat.zero_le _) (by omega)), c3⟩)]
    · obtain ⟨h, e, hh⟩ := M_need hm ws
      refine ⟨nc_up m M 5 (nI v), ?_, by rw [vM_uPl, hm], fun a k ha => nc_up_ne (by omega)⟩
      have h1 : h < nI v := (hh _).mpr ⟨(nI_ltI (a := 1) (by omega) (by omega)).mpr (by omega), c3⟩
      rw [comes_n]
      refine zb_1 ?_
      unfold f_X8_placesCome
      rw [e, nc_some_bind, hn 0 (by simp)]
      simp only [nc_let_eq]
      show (if f_X8_in m (nI v) (h + 1) 7 = 0 then some (m, 0) else some (nc_up m M 5 (nI v), 1)) = _
      unfold f_X8_in
      have h7 : h < 7 := (hh _).mpr ⟨by decide, hi7⟩
      rw [if_neg (show ¬ nI v < h + 1 from fun z => ?_), if_neg (show ¬ 7 < nI v from fun z => absurd ((nI_ltI (a := 7) (by omega) (by omega)).mp z) (by omega)), if_neg (by decide)]
      have t1 : (h + 1).toInt = h.toInt + 1 := by
        have a1 := Int32.lt_iff_toInt_lt.mp h7
        have a2 := Int32.le_toInt h
        rw [Int32.toInt_add, show ((1 : Int32).toInt) = 1 from rfl]
        have a3 : ((7 : Int32).toInt) = 7 := rfl
        rw [a3] at a1
        exact Int.bmod_eq_of_le (by omega) (by omega)
      have a4 := Int32.lt_iff_toInt_lt.mp z
      have a5 := Int32.lt_iff_toInt_lt.mp h1
      omega
  · refine Or.inr ⟨fun m hm hn => ?_, fun m hm hn => ?_⟩
    · obtain ⟨h, e, hh⟩ := C_high hm ws
      rw [hear_n, hn 0 (by simp)]
      refine zb_0 ?_
      show f_X5_hearPlaces m b (nI v) = _
      unfold f_X5_hearPlaces
      simp only [nc_let_eq]
      by_cases c1 : nI v < 2
      · rw [if_pos c1]
      · rw [if_neg c1]
        by_cases c2 : 7 < nI v
        · rw [if_pos c2]
        · rw [if_neg c2, e, nc_some_bind, if_neg (fun z => c ⟨⟨Nat.le_of_not_lt (fun y => c1 ((nI_ltI (b := 2) (by omega) (by omega)).mpr y)), Nat.le_of_not_lt (fun y => c2 ((nI_ltI (a := 7) (by omega) (by omega)).mpr y))⟩, ((hh _).mp z).2⟩)]
    · obtain ⟨h, e, hh⟩ := M_need hm ws
      rw [comes_n]
      refine zb_0 ?_
      unfold f_X8_placesCome
      rw [e, nc_some_bind, hn 0 (by simp)]
      simp only [nc_let_eq]
      show (if f_X8_in m (nI v) (h + 1) 7 = 0 then some (m, 0) else some (nc_up m M 5 (nI v), 1)) = _
      have h7 : h < 7 := (hh _).mpr ⟨by decide, hi7⟩
      rw [if_pos]
      unfold f_X8_in
      by_cases c1 : nI v < h + 1
      · rw [if_pos c1]
      · rw [if_neg c1]
        by_cases c2 : 7 < nI v
        · rw [if_pos c2]
        · exfalso
          have t1 : (h + 1).toInt = h.toInt + 1 := by
            have a1 := Int32.lt_iff_toInt_lt.mp h7
            have a2 := Int32.le_toInt h
            rw [Int32.toInt_add, show ((1 : Int32).toInt) = 1 from rfl]
            have a3 : ((7 : Int32).toInt) = 7 := rfl
            rw [a3] at a1
            exact Int.bmod_eq_of_le (by omega) (by omega)
          have lt : h < nI v := by
            rw [Int32.lt_iff_toInt_lt]
            have h9 : ¬ (nI v).toInt < (h + 1).toInt := fun z => c1 (Int32.lt_iff_toInt_lt.mpr z)
            omega
          obtain ⟨y1, y2⟩ := (hh _).mp lt
          exact c ⟨⟨(nI_ltI (a := 1) (by omega) (by omega)).mp y1, Nat.le_of_not_lt (fun y => c2 ((nI_ltI (a := 7) (by omega) (by omega)).mpr y))⟩, y2⟩
theorem HS_w (ws : s_wf S n pl ps th) (hs : s_sym S) (hR : b + 17 ≤ R) {v0 v1 v2 : Nat} (h0 : v0 < 10) (h1 : v1 < 10) (h2 : v2 < 100) : nc_HS n S b R M 119 [nI v0, nI v1, nI v2] := by
  obtain ⟨w1, w2, w3, w4, w5, w6, w7, w8, w9, w10, w11⟩ := id ws
  have eC : ∀ m, vC m b = S → nc_nC R [nI v0, nI v1, nI v2] m → f_X5_hear m b 119 R = Option.bind (f_X5_hearWay m b (nI v0) (nI v1) (nI v2)) (fun q => nc_zb q.2 (some (q.1, q.2))) := fun m _ hn => by
    rw [hear_w, hn 0 (by simp), hn 1 (by simp), hn 2 (by simp)]
    rfl
  by_cases c : (v0 < pl ∧ v1 < pl) ∧ ¬ v0 = v1 ∧ 1 ≤ v2 ∧ v2 ≤ 60
  · obtain ⟨⟨c0, c1⟩, c2, c3, c4⟩ := c
    refine Or.inl ⟨s_setW S v0 v1 (nI v2), ⟨⟨pl, ps, th, w1, w2, w3, w4, w5, w6, w7, w8, fun a k ha hk => ?_, w10, w11⟩, fun a k => ?_⟩, fun m hm hn => ?_, fun m hm hn => ?_⟩
    · show nc_ok (if (a = v0 ∧ k = v1) ∨ (a = v1 ∧ k = v0) then nI v2 else s_w S a k) 61 ∧ (¬ (if (a = v0 ∧ k = v1) ∨ (a = v1 ∧ k = v0) then nI v2 else s_w S a k) = 0 → a < pl ∧ k < pl ∧ a ≠ k)
      split
      · exact ⟨⟨v2, by omega, rfl⟩, fun _ => by omega⟩
      · exact w9 a k ha hk
    · show (if (a = v0 ∧ k = v1) ∨ (a = v1 ∧ k = v0) then nI v2 else s_w S a k) = (if (k = v0 ∧ a = v1) ∨ (k = v1 ∧ a = v0) then nI v2 else s_w S k a)
      by_cases y : (a = v0 ∧ k = v1) ∨ (a = v1 ∧ k = v0)
      · rw [if_pos y, if_pos (by omega)]
      · rw [if_neg y, if_neg (by omega)]
        exact hs a k
    · refine ⟨nc_up (nc_up m (b + 3) (7 * v0 + v1) (nI v2)) (b + 3) (7 * v1 + v0) (nI v2), ?_, by rw [vC_uW (by omega) (by omega), hm], fun a k ha => (nc_up_na (by omega)).trans (nc_up_na (by omega))⟩
      rw [eC m hm hn]
      refine zb_1 ?_
      have hpl : m b 4 = nI pl := (congrArg s_pl hm).trans w1
      unfold f_X5_hearWay
      simp only [nc_let_eq]
      rw [C_L' hpl w3 (by omega), C_L' hpl w3 (by omega), if_pos c0, if_pos c1, if_neg (by decide), if_neg (by decide), if_neg (fun z => c2 ((nI_eq (by omega) (by omega)).mp z)), if_neg (show ¬ nI v2 < 1 from fun z => absurd ((nI_ltI (b := 1) (by omega) (by omega)).mp z) (by omega)), if_pos (show nI v2 ≤ 60 from nI_le (b := 60) c4 (by omega)), nc_rowc (by omega) (by omega), nc_at_nI (by omega) (by omega), nc_rowc (by omega) (by omega), nc_at_nI (by omega) (by omega)]
    · refine ⟨nc_up (nc_up m (M + 4 + 1 + v0) v1 (nI v2)) (M + 4 + 1 + v1) v0 (nI v2), ?_, by rw [vM_uW (by omega) (by omega), hm], fun a k ha => (nc_up_na (by omega)).trans (nc_up_na (by omega))⟩
      have hpl : m M 5 = nI pl := (congrArg s_pl hm).trans w1
      have n0 : m (M + 26) 0 = nI v0 := hn 0 (by simp)
      have n1 : m (M + 26) 1 = nI v1 := hn 1 (by simp)
      have n2 : m (M + 26) 2 = nI v2 := hn 2 (by simp)
      rw [comes_w]
      refine zb_1 ?_
      unfold f_X8_wayComes
      simp only [nc_let_eq]
      rw [n0, n1, n2, M_L' hpl w3 (by omega), nc_some_bind, if_pos c0, if_neg (by decide), M_L' hpl w3 (by omega), nc_some_bind, if_pos c1, if_neg (by decide), if_neg (fun z => c2 ((nI_eq (by omega) (by omega)).mp z))]
      have ein : f_X8_in m (nI v2) 1 60 = 1 := by
        unfold f_X8_in
        rw [if_neg (show ¬ nI v2 < 1 from fun z => absurd ((nI_ltI (b := 1) (by omega) (by omega)).mp z) (by omega)), if_neg (show ¬ 60 < nI v2 from fun z => absurd ((nI_ltI (a := 60) (by omega) (by omega)).mp z) (by omega))]
      rw [ein, if_neg (by decide), nc_at_nI (by omega) (by omega), nc_at_nI (by omega) (by omega), nc_up_na (by omega), n1, nc_at_nI (by omega) (by omega), nc_up_na (by omega), n0, nc_at_nI (by omega) (by omega), nc_up_na (by omega), n2]
  · refine Or.inr ⟨fun m hm hn => ?_, fun m hm hn => ?_⟩
    · have hpl : m b 4 = nI pl := (congrArg s_pl hm).trans w1
      rw [eC m hm hn]
      refine zb_0 ?_
      unfold f_X5_hearWay
      simp only [nc_let_eq]
      rw [C_L' hpl w3 (by omega), C_L' hpl w3 (by omega)]
      by_cases c0 : v0 < pl
      · rw [if_pos c0, if_neg (by decide)]
        by_cases c1 : v1 < pl
        · rw [if_pos c1, if_neg (by decide)]
          by_cases c2 : nI v0 = nI v1
          · rw [if_pos c2]
          · rw [if_neg c2]
            by_cases c3 : nI v2 < 1
            · rw [if_pos c3]
            · rw [if_neg c3, if_neg (show ¬ nI v2 ≤ 60 from fun z => c ⟨⟨c0, c1⟩, fun y => c2 (by rw [y]), Nat.le_of_not_lt (fun y => c3 ((nI_ltI (b := 1) (by omega) (by omega)).mpr y)), (nI_leI (b := 60) (by omega) (by omega)).mp z⟩)]
        · rw [if_neg c1, if_pos rfl]
      · rw [if_neg c0, if_pos rfl]
    · have hpl : m M 5 = nI pl := (congrArg s_pl hm).trans w1
      have n0 : m (M + 26) 0 = nI v0 := hn 0 (by simp)
      have n1 : m (M + 26) 1 = nI v1 := hn 1 (by simp)
      have n2 : m (M + 26) 2 = nI v2 := hn 2 (by simp)
      rw [comes_w]
      refine zb_0 ?_
      unfold f_X8_wayComes
      simp only [nc_let_eq]
      rw [n0, n1, n2, M_L' hpl w3 (by omega), nc_some_bind]
      by_cases c0 : v0 < pl
      · rw [if_pos c0, if_neg (by decide), M_L' hpl w3 (by omega), nc_some_bind]
        by_cases c1 : v1 < pl
        · rw [if_pos c1, if_neg (by decide)]
          by_cases c2 : nI v0 = nI v1
          · rw [if_pos c2]
          · rw [if_neg c2, if_pos]
            unfold f_X8_in
            by_cases c3 : nI v2 < 1
            · rw [if_pos c3]
            · rw [if_neg c3, if_pos (show 60 < nI v2 from (nI_ltI (a := 60) (by omega) (by omega)).mpr (Nat.lt_of_not_le (fun z => c ⟨⟨c0, c1⟩, fun y => c2 (by rw [y]), Nat.le_of_not_lt (fun y => c3 ((nI_ltI (b := 1) (by omega) (by omega)).mpr y)), z⟩)))]
        · rw [if_neg c1, if_pos rfl]
      · rw [if_neg c0, if_pos rfl]
end HK
