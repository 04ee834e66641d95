-- how soon: both sides
theorem nc_forI2 {τ υ σ R : Type} {B : (τ → υ → Int32 → σ → Option R) → τ → υ → Int32 → σ → Option R} {z : τ → υ → Int32 → σ → Option R} (I : Nat → τ → υ → σ → Prop) (N : Nat) (E : τ → υ → σ → Option R) {s n : Nat} {y : τ} {u : υ} {x : σ} (hs : ∀ rc j y u x, s ≤ j → j < N → I j y u x → ∃ y' u' x', I (j + 1) y' u' x' ∧ B rc y u (nI j) x = rc y' u' (nI (j + 1)) x') (he : ∀ rc y u x, I N y u x → B rc y u (nI N) x = E y u x) (hsN : s ≤ N) (hn : N < n + s) (h0 : I s y u x) : ∃ y' u' x', I N y' u' x' ∧ nc_loop z B n y u (nI s) x = E y' u' x' := by
  have key := nc_loop_ind (z := z) (B := B) (fun r κ => ∀ j y u x, s ≤ j → j + r = N → I j y u x → ∃ y' u' x', I N y' u' x' ∧ κ y u (nI j) x = E y' u' x') (fun r k ih j y u x hsj hj hI => by
    cases r with
    | zero =>
      have : j = N := by omega
      subst this
      exact ⟨y, u, x, hI, he k y u x hI⟩
    | succ r =>
      obtain ⟨y1, u1, x1, h1, e1⟩ := hs k j y u x hsj (by omega) hI
      obtain ⟨y2, u2, x2, h2, e2⟩ := ih r (by omega) (j + 1) y1 u1 x1 (by omega) (by omega) h1
      exact ⟨y2, u2, x2, h2, e1.trans e2⟩) n (N - s) (by omega) s y u x (Nat.le_refl _) (by omega) h0
  exact key
theorem nc_fo_succ {σ : Type} (g : Nat → σ → σ) : ∀ r j x, nc_fo g (r + 1) j x = g (j + r) (nc_fo g r j x)
  | 0, _, _ => rfl
  | r + 1, j, x => by
    show nc_fo g (r + 1) (j + 1) (g j x) = _
    rw [nc_fo_succ g r (j + 1) (g j x), show j + 1 + r = j + (r + 1) by omega]
    rfl
abbrev nc_Wy : Type := Nat → Nat × Nat × Nat
def s_E (S : nc_S) (pl ps : Nat) (rule : Int32) (t : Nat) (al : Int32) (w : nc_Wy) : nc_Ev :=
  (ps, fun p => s_len S pl (w p).2.1 (w p).1 (w p).2.2, fun p i => (s_st S pl (w p).2.1 (w p).1 (w p).2.2 i).1, fun p i => (s_st S pl (w p).2.1 (w p).1 (w p).2.2 i).2, fun p i => decide (s_mind S rule p t (nI (s_st S pl (w p).2.1 (w p).1 (w p).2.2 i).2) al = 1))
def s_wok (pl ps : Nat) (w : nc_Wy) : Prop := ∀ p, p < ps → (w p).1 < pl ∧ (w p).2.1 < pl ∧ (w p).2.2 < 721
def nc_FL (x : Int32) (s0 s : Nat → Nat) : Prop := (x = 0 ∧ s = s0) ∨ (x = 1 ∧ ∃ q, s q < s0 q)
def s_cv (v : Nat) : Nat := if 100000 ≤ v then 1000000 else v
theorem s_cv_le {v m : Nat} (h : m < 100000) : (s_cv v ≤ m) ↔ (v ≤ m) := by
  unfold s_cv
  split <;> omega
theorem s_cv_lt {v m : Nat} (h : m < 100000) : (m < s_cv v) ↔ (m < v) := by
  unfold s_cv
  split <;> omega
theorem s_cv_b {v : Nat} (h : v ≤ 100000) : s_cv v ≤ 1000000 := by
  unfold s_cv
  split <;> omega
theorem s_cv_s {v : Nat} (h : v < 100000) : s_cv v = v := by
  unfold s_cv
  rw [if_neg (by omega)]
theorem s_E_1 (S : nc_S) (pl ps : Nat) (rule : Int32) (t : Nat) (al : Int32) (w : nc_Wy) : (s_E S pl ps rule t al w).1 = ps := by unfold s_E; rfl
theorem s_E_ln (S : nc_S) (pl ps : Nat) (rule : Int32) (t : Nat) (al : Int32) (w : nc_Wy) (p : Nat) : (s_E S pl ps rule t al w).2.1 p = s_len S pl (w p).2.1 (w p).1 (w p).2.2 := by unfold s_E; rfl
theorem s_E_x (S : nc_S) (pl ps : Nat) (rule : Int32) (t : Nat) (al : Int32) (w : nc_Wy) (p i : Nat) : (s_E S pl ps rule t al w).2.2.1 p i = (s_st S pl (w p).2.1 (w p).1 (w p).2.2 i).1 := by unfold s_E; rfl
theorem s_E_m (S : nc_S) (pl ps : Nat) (rule : Int32) (t : Nat) (al : Int32) (w : nc_Wy) (p i : Nat) : (s_E S pl ps rule t al w).2.2.2.1 p i = (s_st S pl (w p).2.1 (w p).1 (w p).2.2 i).2 := by unfold s_E; rfl
theorem s_E_l (S : nc_S) (pl ps : Nat) (rule : Int32) (t : Nat) (al : Int32) (w : nc_Wy) (p i : Nat) : (s_E S pl ps rule t al w).2.2.2.2 p i = decide (s_mind S rule p t (nI (s_st S pl (w p).2.1 (w p).1 (w p).2.2 i).2) al = 1) := by unfold s_E; rfl
theorem pG_e (E : nc_Ev) (p i : Nat) (σ : Bool × (Nat → Nat)) : pG E p i σ = pS (E.2.2.1 p i) (E.2.2.2.1 p i) (E.2.2.2.2 p i) σ := rfl
theorem pP_e (E : nc_Ev) (p : Nat) (s : Nat → Nat) : pP E p s = (nc_fo (pG E p) (E.2.1 p) 0 (false, s)).2 := rfl
section SOON
variable {S : nc_S} {n pl ps th t : Nat} {rule al : Int32} {w : nc_Wy}
theorem s_E_mn (ws : s_wf S n pl ps th) (ok : s_wok pl ps w) {p i : Nat} (hp : p < ps) (hi : i < s_len S pl (w p).2.1 (w p).1 (w p).2.2) : (s_st S pl (w p).2.1 (w p).1 (w p).2.2 i).1 < pl ∧ (s_st S pl (w p).2.1 (w p).1 (w p).2.2 i).2 < 10000 := by
  obtain ⟨o1, o2, o3⟩ := ok p hp
  obtain ⟨a1, a2, a3⟩ := s_way_p (s_wf_ww ws) ws.2.2.1 o1 hi
  have d := s_DF (s_wf_ww ws) ws.2.2.1 o1 o2
  exact ⟨a1, by omega⟩
theorem s_E_six (ws : s_wf S n pl ps th) (ok : s_wok pl ps w) (s : Nat → Nat) {r : Nat} (hr : 6 ≤ r) : pN (s_E S pl ps rule t al w) s r = pN (s_E S pl ps rule t al w) s 6 := by
  refine pN_six s (fun p j hp hj => ?_) (fun p i j hp hij hj => ?_) hr
  · rw [s_E_1] at hp
    rw [s_E_ln] at hj
    have := (s_E_mn ws ok hp hj).1
    have := ws.2.2.1
    rw [s_E_x]
    omega
  · rw [s_E_1] at hp
    rw [s_E_ln] at hj
    rw [s_E_m, s_E_m]
    exact s_way_mn (s_wf_ww ws) ws.2.2.1 (ok p hp).1 hij hj
theorem pN_fix {E : nc_Ev} {s : Nat → Nat} {h : Nat} (e : pN E s (h + 1) = pN E s h) : ∀ d, pN E s (h + d) = pN E s h
  | 0 => rfl
  | d + 1 => by
    show pR E (pN E s (h + d)) = _
    rw [pN_fix e d]
    exact e
theorem s_E_fix (ws : s_wf S n pl ps th) (ok : s_wok pl ps w) {s : Nat → Nat} {h : Nat} (e : pN (s_E S pl ps rule t al w) s (h + 1) = pN (s_E S pl ps rule t al w) s h) : pN (s_E S pl ps rule t al w) s h = pN (s_E S pl ps rule t al w) s 6 := by
  rcases Nat.lt_or_ge h 6 with c | c
  · have := pN_fix e (6 - h)
    rw [show h + (6 - h) = 6 by omega] at this
    exact this.symm
  · exact s_E_six ws ok s c
/-- the class's mind -/
def nc_CX (S : nc_S) (pl ps : Nat) (rule al : Int32) (w : nc_Wy) (X : Nat) (m : nc_Mem) : Prop := vC m (X + 1) = S ∧ m (X + 55) 5 = rule ∧ m (X + 55) 6 = al ∧ ∀ p, p < ps → nc_wC m (X + 59 + 3 * p) (s_len S pl (w p).2.1 (w p).1 (w p).2.2) (s_st S pl (w p).2.1 (w p).1 (w p).2.2)
theorem nc_CX_fr {X : Nat} {m m' : nc_Mem} (hps : ps ≤ 6) (h : nc_CX S pl ps rule al w X m) (hF : ∀ a k, a = X + 55 ∧ (k = 5 ∨ k = 6) ∨ (X < a ∧ a < X + 18) ∨ (X + 59 ≤ a ∧ a < X + 77) → m' a k = m a k) : nc_CX S pl ps rule al w X m' := by
  obtain ⟨h1, h2, h3, h4⟩ := h
  refine ⟨?_, (hF _ _ (by omega)).trans h2, (hF _ _ (by omega)).trans h3, fun p hp => ⟨(hF _ _ (by omega)).trans (h4 p hp).1, fun i hi => ⟨(hF _ _ (by omega)).trans ((h4 p hp).2 i hi).1, (hF _ _ (by omega)).trans ((h4 p hp).2 i hi).2⟩⟩⟩
  rw [← h1]
  exact vC_fr (fun a k h1 h2 h3 => hF a k (by omega))
theorem C_mind {X : Nat} {m : nc_Mem} {p : Nat} {mn : Int32} {N : Nat} (cx : nc_CX S pl ps rule al w X m) (ws : s_wf S n pl ps th) (hp : p < ps) (ht : t < th) (hm : nc_ok mn N) (hN : N ≤ 2 ^ 30) : f_X2_lets m X (nI p) (nI t) mn = some (s_mind S rule p t mn al) := by
  have h5 := ws.2.2.2.2.1
  have h7 := ws.2.2.2.2.2.2.1
  have hl := C_lawLets cx.1 ws hp ht (rule := rule) (mn := mn) (gv := -9) (N := 2 ^ 30) (Nat.le_refl _) (nc_ok_mono hm hN) (Or.inl rfl)
  have r1 : m (X + 1 + 5 + p) 4 = s_P S p 4 := (vC_P (by omega) (by omega)).trans (by rw [cx.1])
  have r2 : m (X + 1 + 11 + t) 4 = s_T S t 4 := (vC_T (by omega) (by omega)).trans (by rw [cx.1])
  unfold f_X2_lets f_X5_fits s_mind
  rw [nc_at_nI (by omega) (by omega), nc_at_nI (by omega) (by omega), r1, r2, cx.2.1, cx.2.2.1, hl]
  by_cases c : s_P S p 4 < s_T S t 4
  · rw [if_pos c, if_pos c]
    rfl
  · rw [if_neg c, if_neg c]
    simp only [nc_some_bind]
    rw [if_neg (by decide), nc_b01 (s_lets_01 _ _ _ _ _ _)]
    split <;> rfl
def nc_b (b : Bool) : Int32 := if b = true then 1 else 0
theorem C_carry {X : Nat} {m0 : nc_Mem} {p : Nat} {s : Nat → Nat} (cx : nc_CX S pl ps rule al w X m0) (ws : s_wf S n pl ps th) (ok : s_wok pl ps w) (hp : p < ps) (ht : t < th) (hs : ∀ q, q < 7 → m0 (X + 57) q = nI (s_cv (s q))) (hsb : ∀ q, s q ≤ 100000) : ∃ m' fl, f_X2_carryAlong m0 X (nI p) (nI t) = some (m', fl) ∧ nc_FL fl s (pP (s_E S pl ps rule t al w) p s) ∧ (∀ q, q < 7 → m' (X + 57) q = nI (s_cv (pP (s_E S pl ps rule t al w) p s q))) ∧ ∀ a k, ¬ (a = X + 57 ∧ k < 7) → m' a k = m0 a k := by
  have h5 := ws.2.2.2.2.1
  have h3 := ws.2.2.1
  obtain ⟨y, u, m', ⟨e1, e2, e3, e4⟩, el⟩ := nc_forI2 (z := fun _ _ _ _ => none) (B := B_X2_carryAlong_16 X (nI p) (nI t) p) (s := 0) (n := 200) (y := (0 : Int32)) (u := (0 : Int32)) (x := m0)
    (fun i y u m => y = nc_b (nc_fo (pG (s_E S pl ps rule t al w) p) i 0 (false, s)).1 ∧ nc_FL u s (nc_fo (pG (s_E S pl ps rule t al w) p) i 0 (false, s)).2 ∧ (∀ q, q < 7 → m (X + 57) q = nI (s_cv ((nc_fo (pG (s_E S pl ps rule t al w) p) i 0 (false, s)).2 q))) ∧ ∀ a k, ¬ (a = X + 57 ∧ k < 7) → m a k = m0 a k)
    (s_len S pl (w p).2.1 (w p).1 (w p).2.2) (fun y u m => some (m, u)) (fun rc i y u m _ hi ⟨i1, i2, i3, i4⟩ => by
      have hle : ∀ q, (nc_fo (pG (s_E S pl ps rule t al w) p) i 0 (false, s)).2 q ≤ s q := fun q => nc_fo_inv (g := pG (s_E S pl ps rule t al w) p) (fun _ σ => σ.2 q ≤ s q) i 0 (false, s) (Nat.le_refl _) (fun i y _ _ h => Nat.le_trans (pS_le _ _ _ y q) h)
      rw [nc_fo_succ, Nat.zero_add]
      generalize hσ : nc_fo (pG (s_E S pl ps rule t al w) p) i 0 (false, s) = σ at i1 i2 i3 hle
      obtain ⟨g1, g2⟩ := s_E_mn ws ok hp hi
      have cm : nc_CX S pl ps rule al w X m := nc_CX_fr h5 cx (fun a k h => i4 a k (by omega))
      obtain ⟨c1, c2⟩ := cm.2.2.2 p hp
      obtain ⟨c3, c4⟩ := c2 i hi
      have cl := C_mind (mn := nI (s_st S pl (w p).2.1 (w p).1 (w p).2.2 i).2) cm ws hp ht (N := 10000) ⟨_, g2, rfl⟩ (by omega)
      have lenle := s_len_le (f := (w p).2.2) (g := (w p).2.1) (s_wf_ww ws) h3 (ok p hp).1
      have eG : pG (s_E S pl ps rule t al w) p i σ = pS (s_st S pl (w p).2.1 (w p).1 (w p).2.2 i).1 (s_st S pl (w p).2.1 (w p).1 (w p).2.2 i).2 (decide (s_mind S rule p t (nI (s_st S pl (w p).2.1 (w p).1 (w p).2.2 i).2) al = 1)) σ := by rw [pG_e, s_E_x, s_E_m, s_E_l]
      rw [eG]
      generalize hx : (s_st S pl (w p).2.1 (w p).1 (w p).2.2 i).1 = x at c3 g1 ⊢
      generalize hmn : (s_st S pl (w p).2.1 (w p).1 (w p).2.2 i).2 = mn at c4 g2 cl ⊢
      have b0 := hsb x
      have b1 := hle x
      have r57 := i3 x (by omega)
      have bcv := s_cv_b (v := σ.2 x) (by omega)
      have d1 : (nI (s_cv (σ.2 x)) ≤ nI mn) ↔ (σ.2 x ≤ mn) := by rw [nI_le' (by omega) (by omega)]; exact s_cv_le (by omega)
      have d2 : (nI mn < nI (s_cv (σ.2 x))) ↔ (mn < σ.2 x) := by rw [nI_lt' (by omega) (by omega)]; exact s_cv_lt (by omega)
      unfold B_X2_carryAlong_16
      simp only [nc_let_eq]
      rw [c1, if_neg (nI_ge hi (by omega)), nc_at_nI (by omega) (by omega), c3, c4, nI_1, i1]
      by_cases hh : σ.1 = true
      · have e1 : nc_b σ.1 = 1 := if_pos hh
        have z10 : ¬ (1 : Int32) = 0 := by decide
        rw [e1, if_neg z10, if_neg z10, nc_at_nI (by omega) (by omega), r57]
        by_cases c : σ.2 x ≤ mn
        · refine ⟨1, u, m, ⟨(if_pos (pS_has hh)).symm, ?_, ?_, i4⟩, ?_⟩
          · have e : (pS x mn (decide (s_mind S rule p t (nI mn) al = 1)) σ).2 = σ.2 := funext (fun q => if_neg (fun z => by omega))
            rw [e]; exact i2
          · have e : (pS x mn (decide (s_mind S rule p t (nI mn) al = 1)) σ).2 = σ.2 := funext (fun q => if_neg (fun z => by omega))
            rw [e]; exact i3
          · rw [if_pos (d1.mpr c)]
        · refine ⟨1, 1, nc_up m (X + 57) x (nI mn), ⟨(if_pos (pS_has hh)).symm, Or.inr ⟨rfl, x, ?_⟩, fun q hq => ?_, fun a k ha => ?_⟩, ?_⟩
          · have : (pS x mn (decide (s_mind S rule p t (nI mn) al = 1)) σ).2 x = mn := if_pos ⟨rfl, hh, by omega⟩
            rw [this]
            omega
          · by_cases e : q = x
            · subst e
              have : (pS q mn (decide (s_mind S rule p t (nI mn) al = 1)) σ).2 q = mn := if_pos ⟨rfl, hh, by omega⟩
              rw [this, nc_up_same, s_cv_s (by omega)]
            · have : (pS x mn (decide (s_mind S rule p t (nI mn) al = 1)) σ).2 q = σ.2 q := if_neg (fun z => e z.1)
              rw [this, nc_up_ne (by omega)]
              exact i3 q hq
          · rw [nc_up_ne (by omega)]
            exact i4 a k ha
          · rw [if_neg (fun z => c (d1.mp z)), if_neg z10]
      · have e1 : nc_b σ.1 = 0 := if_neg hh
        have e2 : (pS x mn (decide (s_mind S rule p t (nI mn) al = 1)) σ).2 = σ.2 := funext (fun q => if_neg (fun z => hh z.2.1))
        have e3 : (pS x mn (decide (s_mind S rule p t (nI mn) al = 1)) σ).1 = (decide (σ.2 x ≤ mn) && decide (s_mind S rule p t (nI mn) al = 1)) := by
          show (σ.1 || (decide ((if σ.1 = true ∧ mn < σ.2 x then mn else σ.2 x) ≤ mn) && _)) = _
          rw [if_neg (fun z => hh z.1)]
          simp [hh]
        rw [e1, e2, e3, if_pos rfl, if_pos rfl, nc_at_nI (by omega) (by omega), r57, cl]
        simp only [nc_some_bind]
        by_cases c : mn < σ.2 x
        · refine ⟨0, u, m, ⟨?_, i2, i3, i4⟩, ?_⟩
          · rw [decide_eq_false (show ¬ σ.2 x ≤ mn by omega)]
            rfl
          · rw [if_pos (d2.mpr c)]
        · rcases s_mind_01 S rule p t (nI mn) al with k | k
          · refine ⟨0, u, m, ⟨?_, i2, i3, i4⟩, ?_⟩
            · rw [decide_eq_false (show ¬ s_mind S rule p t (nI mn) al = 1 by rw [k]; decide), Bool.and_false]
              rfl
            · rw [if_neg (fun z => c (d2.mp z)), if_pos k]
          · refine ⟨1, u, m, ⟨?_, i2, i3, i4⟩, ?_⟩
            · rw [decide_eq_true k, decide_eq_true (show σ.2 x ≤ mn by omega)]
              rfl
            · rw [if_neg (fun z => c (d2.mp z)), if_neg (by rw [k]; decide)]) (fun rc y u m ⟨i1, i2, i3, i4⟩ => by
      have cm : nc_CX S pl ps rule al w X m := nc_CX_fr h5 cx (fun a k h => i4 a k (by omega))
      have lenle := s_len_le (f := (w p).2.2) (g := (w p).2.1) (s_wf_ww ws) h3 (ok p hp).1
      unfold B_X2_carryAlong_16
      rw [(cm.2.2.2 p hp).1, if_pos (nI_le (Nat.le_refl _) (by omega))]
      unfold nc_zb
      rcases i2 with ⟨e, _⟩ | ⟨e, _⟩ <;> rw [e] <;> rfl) (Nat.zero_le _) (by
      have := s_len_le (f := (w p).2.2) (g := (w p).2.1) (s_wf_ww ws) h3 (ok p hp).1
      omega) ⟨rfl, Or.inl ⟨rfl, rfl⟩, hs, fun _ _ _ => rfl⟩
  rw [pP_e, s_E_ln]
  refine ⟨m', u, ?_, e2, e3, e4⟩
  unfold f_X2_carryAlong
  rw [nc_at_nI (by omega) (by omega)]
  exact el
end SOON
