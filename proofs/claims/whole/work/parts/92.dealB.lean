-- EACH: the class's table and whose thing a person has
theorem nc_for2I {σ R : Type} {B : (σ → Int32 → Option R) → σ → Int32 → Option R} {z : σ → Int32 → Option R} (I : Nat → σ → Prop) (fin : σ → Option R) (th : Nat) (hs : ∀ rc x j, j < th → I j x → ∃ x', I (j + 1) x' ∧ B rc x (nI j) = rc x' (nI (j + 1))) (he : ∀ rc x, I th x → B rc x (nI th) = fin x) {n : Nat} {x : σ} (hn : th < n) (h0 : I 0 x) : ∃ x', I th x' ∧ nc_loop z B n x 0 = fin x' := by
  have key := nc_loop_ind (z := z) (B := B) (fun r κ => ∀ j x, j + r = th → I j x → ∃ x', I th x' ∧ κ x (nI j) = fin x') (fun r k ih j x hj hI => by
    cases r with
    | zero =>
      have : j = th := by omega
      subst this
      exact ⟨x, hI, he k x hI⟩
    | succ r =>
      obtain ⟨x', h1, h2⟩ := hs k x j (by omega) hI
      rw [h2]
      exact ih r (by omega) (j + 1) x' (by omega) h1) n th hn 0 x (by omega) h0
  exact key
theorem e_V_0 (D : nc_De) (p T : Nat) : e_V D 0 p T = 0 := rfl
theorem iI_0 : iI 0 = 0 := by decide
def nc_bC (D : nc_De) (ps q X : Nat) (m : nc_Mem) : Prop := ∀ p T, q ≤ p → p ≤ ps → T < 64 → m (X + 77 + 2) (64 * p + T) = iI (e_V D (ps - p) p T)
section BEST
variable {D : nc_De} {ps th X p r T : Nat} {m : nc_Mem}
theorem e_y_b (hb : e_bd D ps) (h : p + (r + 1) ≤ ps) {k : Nat} (hk : k ≤ D.1) : 0 ≤ nc_fo (e_mx (e_cd D p T) (e_vl D r p T)) k 0 (e_V D r (p + 1) T) ∧ nc_fo (e_mx (e_cd D p T) (e_vl D r p T)) k 0 (e_V D r (p + 1) T) ≤ 100 * (r + 1) := by
  obtain ⟨h1, h2, h3⟩ := e_mx_p (e_cd D p T) (e_vl D r p T) (e_V D r (p + 1) T) k
  obtain ⟨k1, k2⟩ := e_V_b hb r (p + 1) T (by omega)
  refine ⟨by omega, ?_⟩
  rcases h3 with e | ⟨t, t1, t2, t3⟩
  · rw [e]; omega
  · have b1 := (hb p t (by omega) (by omega) (by unfold e_cd at t2; revert t2; cases D.2.1 p t <;> simp)).2
    have b2 := (e_V_b hb r (p + 1) (e_or T t) (by omega)).2
    have t4 : e_vl D r p T t = D.2.2 p t + e_V D r (p + 1) (e_or T t) := rfl
    omega
theorem e_g_b (hb : e_bd D ps) (hp : p < ps) {t : Nat} (ht : t < D.1) : -1000000 ≤ e_g D p t ∧ e_g D p t ≤ 100 := by
  unfold e_g
  split
  · rename_i c
    have := hb p t hp ht c
    omega
  · omega
theorem C_sumWith (hb : e_bd D ps) (h6 : ps ≤ 6) (hD : D.1 = th) (ht6 : th ≤ 6) (hg : nc_gC D ps th X m) (hbC : nc_bC D ps (p + 1) X m) (hr : p + (r + 1) = ps) (hT : T < 64) {t : Nat} (ht : t < th) : f_X0_sumWith m (X + 77) (nI p) (nI t) (nI T) = some (iI (e_g D p t + e_V D r (p + 1) (e_or T t))) := by
  unfold f_X0_sumWith
  rw [nc_row6 (by omega) (by omega), nc_at_nI (by omega) (by omega), nI_1, e_or_e hT (by omega), nc_row64 (by omega) (e_or_lt hT (by omega)), nc_at_nI (by have := e_or_lt hT (show t < 6 by omega); omega) (by omega), hg p t (by omega) ht, hbC (p + 1) (e_or T t) (Nat.le_refl _) (by omega) (e_or_lt hT (by omega)), show ps - (p + 1) = r by omega, iI_add]
theorem e_fr_p (c : ((nI T >>> (nI p &&& 31)) &&& 1) = 0) : e_fr T p = true := decide_eq_true c
theorem e_fr_n (c : ¬ ((nI T >>> (nI p &&& 31)) &&& 1) = 0) : e_fr T p = false := decide_eq_false c
theorem C_bestFrom (hb : e_bd D ps) (h6 : ps ≤ 6) (hD : D.1 = th) (ht6 : th ≤ 6) (hth : m (X + 1) 6 = nI th) (hg : nc_gC D ps th X m) (hbC : nc_bC D ps (p + 1) X m) (hr : p + (r + 1) = ps) (hT : T < 64) : f_X0_bestFrom m (X + 77) (X + 1) (nI p) (nI T) = some (iI (e_V D (r + 1) p T)) := by
  obtain ⟨x', i1, e1⟩ := nc_for2I (z := fun _ _ => none) (B := B_X0_bestFrom_18 m (X + 77) (X + 1) (nI p) (nI T)) (n := 200) (x := iI (e_V D r (p + 1) T)) (fun j x => x = iI (nc_fo (e_mx (e_cd D p T) (e_vl D r p T)) j 0 (e_V D r (p + 1) T))) (fun x => some x) th (fun rc x j hj hx => by
      have yb := e_y_b (T := T) (p := p) (r := r) hb (by omega) (show j ≤ D.1 by omega)
      refine ⟨_, rfl, ?_⟩
      rw [nc_fo_succ, Nat.zero_add, hx]
      generalize hy : nc_fo (e_mx (e_cd D p T) (e_vl D r p T)) j 0 (e_V D r (p + 1) T) = y at yb ⊢
      unfold B_X0_bestFrom_18
      simp only [nc_let_eq]
      rw [hth, if_neg (nI_ge hj (by omega))]
      by_cases c : ((nI T >>> (nI j &&& 31)) &&& 1) = 0
      · rw [if_pos c, C_sumWith hb h6 hD ht6 hg hbC hr hT hj]
        simp only [nc_some_bind]
        rw [nI_1]
        have b2 := e_V_b hb r (p + 1) (e_or T j) (by omega)
        have b3 := e_g_b hb (show p < ps by omega) (show j < D.1 by omega)
        unfold e_mx e_cd e_vl
        rw [e_fr_p c]
        by_cases c2 : D.2.1 p j = true
        · have e9 : e_g D p j = D.2.2 p j := by unfold e_g; rw [if_pos c2]
          rw [e9] at b3 ⊢
          rw [c2]
          by_cases c3 : y < D.2.2 p j + e_V D r (p + 1) (e_or T j)
          · rw [if_pos ((iI_lt (by omega) (by omega)).mpr c3), if_pos ⟨rfl, c3⟩]
          · rw [if_neg (fun z => c3 ((iI_lt (by omega) (by omega)).mp z)), if_neg (fun z => c3 z.2)]
        · have e9 : e_g D p j = -1000000 := by unfold e_g; rw [if_neg c2]
          rw [e9, if_neg (fun z => absurd ((iI_lt (by omega) (by omega)).mp z) (by omega)), if_neg (fun z => c2 (by simpa using z.1))]
      · rw [if_neg c, nI_1]
        unfold e_mx e_cd
        rw [e_fr_n c, if_neg (fun z => by simp at z)]) (fun rc x hx => by
      unfold B_X0_bestFrom_18
      rw [hth, if_pos (nI_le (Nat.le_refl _) (by omega))]) (by omega) rfl
  unfold f_X0_bestFrom
  simp only [nc_let_eq]
  rw [nI_1, nc_row64 (by omega) hT, nc_at_nI (by omega) (by omega), hbC (p + 1) T (Nat.le_refl _) (by omega) hT, show ps - (p + 1) = r by omega]
  refine Eq.trans e1 ?_
  rw [i1, e_V_s, hD]
theorem C_bestRow (hb : e_bd D ps) (h6 : ps ≤ 6) (hD : D.1 = th) (ht6 : th ≤ 6) (hth : m (X + 1) 6 = nI th) (hg : nc_gC D ps th X m) (hbC : nc_bC D ps (p + 1) X m) (hr : p + (r + 1) = ps) {rc8 : Int32 → nc_Mem → Option (nc_Mem × Int32)} : ∃ m', nc_loop (fun _ _ => none) (B_X0_bestSum_28 (X + 77) (X + 1) (nI p) rc8) 200 0 m = rc8 (nI p - 1) m' ∧ nc_bC D ps p X m' ∧ ∀ a k, ¬ a = X + 77 + 2 → m' a k = m a k := by
  obtain ⟨m', ⟨i1, i2, i3⟩, e1⟩ := nc_forI (z := fun _ _ => none) (B := B_X0_bestSum_28 (X + 77) (X + 1) (nI p) rc8) (s := 0) (n := 200) (x := m) (fun j m1 => (∀ T, T < j → m1 (X + 77 + 2) (64 * p + T) = iI (e_V D (r + 1) p T)) ∧ nc_bC D ps (p + 1) X m1 ∧ ∀ a k, ¬ a = X + 77 + 2 → m1 a k = m a k) 64 (fun m1 => rc8 (nI p - 1) m1) (fun rc j m1 _ hj ⟨i1, i2, i3⟩ => by
      have hg1 : nc_gC D ps th X m1 := fun p t hp ht => (i3 _ _ (by omega)).trans (hg p t hp ht)
      refine ⟨nc_up m1 (X + 77 + 2) (64 * p + j) (iI (e_V D (r + 1) p j)), ⟨fun T hT => ?_, fun q T h1 h2 h3 => (nc_up_ne (by omega)).trans (i2 q T h1 h2 h3), fun a k ha => (nc_up_na ha).trans (i3 a k ha)⟩, ?_⟩
      · by_cases c : T = j
        · rw [c, nc_up_same]
        · rw [nc_up_ne (by omega)]
          exact i1 T (by omega)
      · unfold B_X0_bestSum_28
        simp only [nc_let_eq]
        rw [if_neg (show ¬ 64 ≤ nI j from nI_ge (b := 64) hj (by omega)), C_bestFrom hb h6 hD ht6 ((i3 _ _ (by omega)).trans hth) hg1 i2 hr hj]
        simp only [nc_some_bind]
        rw [nc_row64 (by omega) hj, nc_at_nI (by omega) (by omega), nI_1]) (fun rc m1 _ => by
      unfold B_X0_bestSum_28
      simp only [nc_let_eq]
      rw [if_pos (show 64 ≤ nI 64 by decide)]
      rw [show nI p + -1 = nI p - 1 from (Int32.sub_eq_add_neg _ _).symm]) (Nat.zero_le _) (by omega) ⟨fun T hT => absurd hT (Nat.not_lt_zero _), hbC, fun _ _ _ => rfl⟩
  refine ⟨m', e1, fun q T h1 h2 h3 => ?_, i3⟩
  by_cases c : q = p
  · rw [c, i1 T h3, show ps - p = r + 1 by omega]
  · exact i2 q T (by omega) h2 h3
theorem C_bestAll (hb : e_bd D ps) (h6 : ps ≤ 6) (hD : D.1 = th) (ht6 : th ≤ 6) (hth : m (X + 1) 6 = nI th) (hg : nc_gC D ps th X m) (hbC : nc_bC D ps ps X m) {k4 : nc_Mem → Option (nc_Mem × Int32)} : ∃ m', nc_loop (fun _ _ => none) (B_X0_bestSum_21 (X + 77) (X + 1) k4) 200 (nI ps - 1) m = k4 m' ∧ nc_bC D ps 0 X m' ∧ ∀ a k, ¬ a = X + 77 + 2 → m' a k = m a k := by
  have key := nc_loop_ind (z := fun _ _ => none) (B := B_X0_bestSum_21 (X + 77) (X + 1) k4) (fun q κ => ∀ m1 : nc_Mem, q ≤ ps → nc_bC D ps q X m1 → (∀ a k, ¬ a = X + 77 + 2 → m1 a k = m a k) → ∃ m', κ (nI q - 1) m1 = k4 m' ∧ nc_bC D ps 0 X m' ∧ ∀ a k, ¬ a = X + 77 + 2 → m' a k = m a k) (fun q κ ih m1 hq hb1 hF => by
    cases q with
    | zero =>
      refine ⟨m1, ?_, hb1, hF⟩
      unfold B_X0_bestSum_21
      rw [if_pos (show nI 0 - 1 < 0 by decide)]
    | succ q =>
      have e0 : nI (q + 1) - 1 = nI q := by rw [← nI_1]; exact Int32.add_sub_cancel _ _
      obtain ⟨m2, e2, b2, F2⟩ := C_bestRow (m := m1) (rc8 := κ) (p := q) (r := ps - (q + 1)) hb h6 hD ht6 ((hF _ _ (by omega)).trans hth) (fun p t hp ht => (hF _ _ (by omega)).trans (hg p t hp ht)) hb1 (by omega)
      obtain ⟨m3, e3, b3, F3⟩ := ih q (by omega) m2 (by omega) b2 (fun a k ha => (F2 a k ha).trans (hF a k ha))
      refine ⟨m3, ?_, b3, F3⟩
      rw [e0]
      unfold B_X0_bestSum_21
      rw [if_neg (nI_pos (by omega)), e2]
      exact e3) 200 ps (by omega) m (Nat.le_refl _) hbC (fun _ _ _ => rfl)
  exact key
theorem C_first (hb : e_bd D ps) (h6 : ps ≤ 6) (hD : D.1 = th) (ht6 : th ≤ 6) (hth : m (X + 1) 6 = nI th) (hg : nc_gC D ps th X m) (hbC : nc_bC D ps 0 X m) (hr : p + (r + 1) = ps) (hT : T < 64) : f_X0_firstChoice m (X + 77) (X + 1) (nI p) (nI T) = some (match e_c D r p T with | none => -9 | some t => nI t) := by
  have v1 := e_V_b hb (r + 1) p T (by omega)
  have v0 := e_V_b hb r (p + 1) T (by omega)
  unfold f_X0_firstChoice
  simp only [nc_let_eq]
  rw [nc_row64 (by omega) hT, nc_at_nI (by omega) (by omega), nI_1, nc_row64 (by omega) hT, nc_at_nI (by omega) (by omega), hbC p T (Nat.zero_le _) (by omega) hT, hbC (p + 1) T (Nat.zero_le _) (by omega) hT, show ps - p = r + 1 by omega, show ps - (p + 1) = r by omega]
  rcases e_c_p D r p T with ⟨ec, ev⟩ | ⟨ev, t, t1, ec, t2, t3, t4⟩
  · rw [if_pos ((iI_eq (by omega) (by omega)).mpr ev), ec]
  · rw [if_neg (fun z => absurd ((iI_eq (by omega) (by omega)).mp z) (by omega)), ec]
    have hbC1 : nc_bC D ps (p + 1) X m := fun q T h1 h2 h3 => hbC q T (Nat.zero_le _) h2 h3
    have cond : ∀ j, j < th → ((nI T >>> (nI j &&& 31)) &&& 1) = 0 → (e_g D p j + e_V D r (p + 1) (e_or T j) = e_V D (r + 1) p T ↔ (e_cd D p T j = true ∧ e_vl D r p T j = e_V D (r + 1) p T)) := fun j hj c => by
      have b2 := e_V_b hb r (p + 1) (e_or T j) (by omega)
      unfold e_g e_cd e_vl
      rw [e_fr_p c]
      by_cases c2 : D.2.1 p j = true
      · rw [if_pos c2, c2]
        exact ⟨fun z => ⟨rfl, z⟩, fun z => z.2⟩
      · rw [if_neg c2]
        exact ⟨fun z => by omega, fun z => absurd (by simpa using z.1) c2⟩
    refine nc_fndL (z := fun _ => none) (B := B_X0_firstChoice_37 m (X + 77) (X + 1) (nI p) (nI T) (iI (e_V D (r + 1) p T))) (P := fun j => e_cd D p T j = true ∧ e_vl D r p T j = e_V D (r + 1) p T) (some (nI t)) (q := t) (n := 200) (fun rc j hj hn => ?_) (fun rc => ?_) (by omega) (fun j hj z => t4 j hj z.1 z.2)
    · unfold B_X0_firstChoice_37
      simp only [nc_let_eq]
      rw [hth, if_neg (nI_ge (show j < th by omega) (by omega))]
      by_cases c : ((nI T >>> (nI j &&& 31)) &&& 1) = 0
      · have b2 := e_V_b hb r (p + 1) (e_or T j) (by omega)
        have b3 := e_g_b hb (show p < ps by omega) (show j < D.1 by omega)
        rw [if_pos c, C_sumWith hb h6 hD ht6 hg hbC1 hr hT (by omega)]
        simp only [nc_some_bind]
        rw [if_neg (fun z => hn ((cond j (by omega) c).mp ((iI_eq (by omega) (by omega)).mp z))), nI_1]
      · rw [if_neg c, nI_1]
    · have c : ((nI T >>> (nI t &&& 31)) &&& 1) = 0 := by
        unfold e_cd at t2
        simp only [Bool.and_eq_true] at t2
        exact of_decide_eq_true t2.1
      have b2 := e_V_b hb r (p + 1) (e_or T t) (by omega)
      have b3 := e_g_b hb (show p < ps by omega) (show t < D.1 by omega)
      unfold B_X0_firstChoice_37
      simp only [nc_let_eq]
      rw [hth, if_neg (nI_ge (show t < th by omega) (by omega)), if_pos c, C_sumWith hb h6 hD ht6 hg hbC1 hr hT (by omega)]
      simp only [nc_some_bind]
      rw [if_pos ((iI_eq (by omega) (by omega)).mpr ((cond t (by omega) c).mpr ⟨t2, t3⟩))]
theorem C_thingOf (hb : e_bd D ps) (h6 : ps ≤ 6) (hD : D.1 = th) (ht6 : th ≤ 6) (hth : m (X + 1) 6 = nI th) (hps : m (X + 1) 5 = nI ps) (hg : nc_gC D ps th X m) (hbC : nc_bC D ps 0 X m) {q : Nat} (hq : q < ps) : f_X0_thingOf m (X + 77) (X + 1) (nI q) = some (e_P D ps 0 0 q) := by
  have stop : ∀ (κ : Int32 → Int32 → Int32 → Option Int32) (x u : Int32), B_X0_thingOf_9 m (X + 77) (X + 1) (nI q) κ x u (nI (q + 1)) = some u := fun κ x u => by
    unfold B_X0_thingOf_9
    rw [if_pos ((nI_ltI (by omega) (by omega)).mpr (Nat.lt_succ_self q))]
  have key := nc_loop_ind (z := fun _ _ _ => none) (B := B_X0_thingOf_9 m (X + 77) (X + 1) (nI q)) (fun d κ => (∀ p r T u, p + d = q + 1 → p ≤ q → p + r = ps → T < 64 → κ (nI T) u (nI p) = some (e_P D r p T q)) ∧ (d = 0 → ∀ x u, κ x u (nI (q + 1)) = some u)) (fun d κ ih => by
    refine ⟨fun p r T u hd hpq hr hT => ?_, fun _ x u => stop κ x u⟩
    obtain ⟨r, rfl⟩ : ∃ r', r = r' + 1 := ⟨r - 1, by omega⟩
    unfold B_X0_thingOf_9
    simp only [nc_let_eq]
    rw [if_neg (fun z => absurd ((nI_ltI (by omega) (by omega)).mp z) (by omega)), hps, if_neg (nI_ge (show p < ps by omega) (by omega)), C_first hb h6 hD ht6 hth hg hbC hr hT]
    simp only [nc_some_bind]
    rcases e_c_p D r p T with ⟨ec, ev⟩ | ⟨ev, t, t1, ec, t2, t3, t4⟩
    · have e9 : e_P D (r + 1) p T q = if q = p then -9 else e_P D r (p + 1) T q := by
        show (match e_c D r p T with | none => if q = p then -9 else e_P D r (p + 1) T q | some t => if q = p then nI t else e_P D r (p + 1) (e_or T t) q) = _
        rw [ec]
      rw [ec, e9, if_pos rfl, nI_1]
      by_cases c : q = p
      · rw [if_pos c, ← c]
        exact (ih 0 (by omega)).2 rfl _ _
      · rw [if_neg c]
        exact (ih (d - 1) (by omega)).1 (p + 1) r T _ (by omega) (by omega) (by omega) hT
    · have e9 : e_P D (r + 1) p T q = if q = p then nI t else e_P D r (p + 1) (e_or T t) q := by
        show (match e_c D r p T with | none => if q = p then -9 else e_P D r (p + 1) T q | some t => if q = p then nI t else e_P D r (p + 1) (e_or T t) q) = _
        rw [ec]
      rw [ec, e9]
      simp only []
      rw [if_neg (nI_ne9 (by omega)), nI_1, e_or_e hT (by omega)]
      by_cases c : q = p
      · rw [if_pos c, ← c]
        exact (ih 0 (by omega)).2 rfl _ _
      · rw [if_neg c]
        exact (ih (d - 1) (by omega)).1 (p + 1) r (e_or T t) _ (by omega) (by omega) (by omega) (e_or_lt hT (by omega))) 200 (q + 1) (by omega)
  exact key.1 0 ps 0 (-9) (by omega) (by omega) (by omega) (by omega)
end BEST
section BESTS
variable {n : Nat} {A : nc_A} {X pl ps th : Nat} {m : nc_Mem}
theorem C_fill448 {m1 : nc_Mem} : ∃ m2, f_J7_fill_53178 m1 (X + 77 + 2) 448 0 = some m2 ∧ (∀ q, q < 448 → m2 (X + 77 + 2) q = 0) ∧ ∀ a k, ¬ a = X + 77 + 2 → m2 a k = m1 a k := by
  obtain ⟨m2, e2, f2, F2'⟩ := C_fill (m := m1) (r0 := X + 77 + 2) (N := 448) (v := 0) (by decide)
  exact ⟨m2, e2, f2, fun a k ha => F2' a k (fun z => ha z.1)⟩
theorem C_b0 {D : nc_De} {m2 : nc_Mem} (h6 : ps ≤ 6) (f2 : ∀ q, q < 448 → m2 (X + 77 + 2) q = 0) : nc_bC D ps ps X m2 := fun p T h1 h2 h3 => by
  have : p = ps := by omega
  subst this
  rw [f2 _ (by omega), Nat.sub_self, e_V_0, iI_0]
theorem C_bestSum (h : aC m X = A) (hl : nc_lst A.1 (X + 1) m) (ws : s_wf A.1 n pl ps th) (a4 : Int32) : ∃ m', f_X0_bestSum m (X + 77) (X + 1) a4 = some (m', iI (e_V (s_De A.1 th a4) ps 0 0)) ∧ nc_gC (s_De A.1 th a4) ps th X m' ∧ nc_bC (s_De A.1 th a4) ps 0 X m' ∧ ∀ a k, ¬ (a = X + 77 + 1 ∨ a = X + 77 + 2) → m' a k = m a k := by
  obtain ⟨w1, w2, w3, w4, w5, w6, w7, w8, w9, w10, w11⟩ := id ws
  obtain ⟨m1, e1, g1, F1⟩ := C_weigh h hl ws a4
  have hbd := s_De_bd ws a4
  have hD1 := s_De_1 A.1 th a4
  generalize s_De A.1 th a4 = D at g1 hbd hD1 ⊢
  obtain ⟨m2, e2, f2, F2⟩ := C_fill448 (X := X) (m1 := m1)
  have G2 : ∀ a k, ¬ (a = X + 77 + 1 ∨ a = X + 77 + 2) → m2 a k = m a k := fun a k ha => (F2 a k (by omega)).trans (F1 a k (by omega))
  have hb : nc_bC D ps ps X m2 := C_b0 w5 f2
  obtain ⟨m3, e3, b3, F3⟩ := C_bestAll (k4 := fun mi5 => some (mi5, (mi5 (X + 77 + 2) 0))) hbd w5 hD1 w7 ((G2 _ _ (by omega)).trans ((C_th h).trans w6)) (fun p t hp ht => (F2 _ _ (by omega)).trans (g1 p t hp ht)) hb
  have e4 : m3 (X + 77 + 2) 0 = iI (e_V D ps 0 0) := b3 0 0 (Nat.le_refl _) (Nat.zero_le _) (by omega)
  refine ⟨m3, ?_, fun p t hp ht => (F3 _ _ (by omega)).trans ((F2 _ _ (by omega)).trans (g1 p t hp ht)), b3, fun a k ha => (F3 a k (by omega)).trans (G2 a k ha)⟩
  rw [← e4]
  unfold f_X0_bestSum
  rw [e1, nc_some_bind, e2, nc_some_bind]
  simp only [nc_let_eq]
  rw [G2 _ _ (by omega), (C_ps h).trans w4]
  exact e3
end BESTS
