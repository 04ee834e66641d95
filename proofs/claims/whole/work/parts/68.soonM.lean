-- the reference's
def nc_MY (S : nc_S) (pl ps : Nat) (w : nc_Wy) (M : Nat) (m : nc_Mem) : Prop := vM m M = S ∧ ∀ p, p < ps → nc_wM m M p (s_len S pl (w p).2.1 (w p).1 (w p).2.2) (s_st S pl (w p).2.1 (w p).1 (w p).2.2)
theorem M_mind' {mi : nc_Mem} {S : nc_S} {M n pl ps th p t : Nat} (h : vM mi M = S) (wf : s_wf S n pl ps th) (hp : p < ps) (ht : t < th) {rule mn al : Int32} (hr : nc_ok rule 5) : f_X8_mayInMind mi M rule (nI p) (nI t) mn al = some (s_mind S rule p t mn al) := by
  have e : (aM mi M).1 = S := h
  have := M_mind (A := aM mi M) rfl (e.symm ▸ wf) hp ht (rule := rule) (mn := mn) (al := al) hr
  rw [e] at this
  exact this
section SOONM
variable {S : nc_S} {n pl ps th t : Nat} {rule al : Int32} {w : nc_Wy}
theorem nc_MY_fr {M : Nat} {m m' : nc_Mem} (hps : ps ≤ 6) (h : nc_MY S pl ps w M m) (hF : ∀ a k, (M ≤ a ∧ a < M + 26) ∨ (M + 36 ≤ a ∧ a < M + 50) → m' a k = m a k) : nc_MY S pl ps w M m' := by
  obtain ⟨h1, h4⟩ := h
  refine ⟨?_, fun p hp => ⟨(hF _ _ (by omega)).trans (h4 p hp).1, fun i hi => ⟨(hF _ _ (by omega)).trans ((h4 p hp).2 i hi).1, (hF _ _ (by omega)).trans ((h4 p hp).2 i hi).2⟩⟩⟩
  rw [← h1]
  exact vM_fr (fun a k h1 h2 => hF a k (by omega))
theorem M_carry {M : Nat} {m0 : nc_Mem} {p : Nat} {s sR : Nat → Nat} {fl0 : Int32} {rc13 : Int32 → Int32 → nc_Mem → Option nc_Mem} (mx : nc_MY S pl ps w M m0) (ws : s_wf S n pl ps th) (ok : s_wok pl ps w) (hr : nc_ok rule 5) (hp : p < ps) (ht : t < th) (hs : ∀ q, q < 7 → m0 (M + 50) q = nI (s q)) (hsb : ∀ q, s q ≤ 100000) (hfl : nc_FL fl0 sR s) (hsr : ∀ q, s q ≤ sR q) : ∃ fl m', (nc_FL fl sR (pP (s_E S pl ps rule t al w) p s) ∧ (∀ q, q < 7 → m' (M + 50) q = nI (pP (s_E S pl ps rule t al w) p s q)) ∧ ∀ a k, ¬ (a = M + 50 ∧ k < 7) → m' a k = m0 a k) ∧ nc_loop (fun _ _ _ _ => none) (B_X8_findSoon_68 M rule (nI t) al (nI p) rc13) 200 fl0 0 0 m0 = rc13 fl (nI (p + 1)) m' := by
  have h5 := ws.2.2.2.2.1
  have h3 := ws.2.2.1
  obtain ⟨y, u, m', ⟨e1, e2, e3, e4⟩, el⟩ := nc_forI2 (z := fun _ _ _ _ => none) (B := B_X8_findSoon_68 M rule (nI t) al (nI p) rc13) (s := 0) (n := 200) (y := fl0) (u := (0 : Int32)) (x := m0)
    (fun i y u m => u = nc_b (nc_fo (pG (s_E S pl ps rule t al w) p) i 0 (false, s)).1 ∧ nc_FL y sR (nc_fo (pG (s_E S pl ps rule t al w) p) i 0 (false, s)).2 ∧ (∀ q, q < 7 → m (M + 50) q = nI ((nc_fo (pG (s_E S pl ps rule t al w) p) i 0 (false, s)).2 q)) ∧ ∀ a k, ¬ (a = M + 50 ∧ k < 7) → m a k = m0 a k)
    (s_len S pl (w p).2.1 (w p).1 (w p).2.2) (fun y u m => rc13 y (nI (p + 1)) m) (fun rc i y u m _ hi ⟨i1, i2, i3, i4⟩ => by
      have hle : ∀ q, (nc_fo (pG (s_E S pl ps rule t al w) p) i 0 (false, s)).2 q ≤ s q := fun q => nc_fo_inv (g := pG (s_E S pl ps rule t al w) p) (fun _ σ => σ.2 q ≤ s q) i 0 (false, s) (Nat.le_refl _) (fun i y _ _ h => Nat.le_trans (pS_le _ _ _ y q) h)
      rw [nc_fo_succ, Nat.zero_add]
      generalize hσ : nc_fo (pG (s_E S pl ps rule t al w) p) i 0 (false, s) = σ at i1 i2 i3 hle
      obtain ⟨g1, g2⟩ := s_E_mn ws ok hp hi
      have cm : nc_MY S pl ps w M m := nc_MY_fr h5 mx (fun a k h => i4 a k (by omega))
      obtain ⟨c1, c2⟩ := cm.2 p hp
      obtain ⟨c3, c4⟩ := c2 i hi
      have lenle := s_len_le (f := (w p).2.2) (g := (w p).2.1) (s_wf_ww ws) h3 (ok p hp).1
      have eG : pG (s_E S pl ps rule t al w) p i σ = pS (s_st S pl (w p).2.1 (w p).1 (w p).2.2 i).1 (s_st S pl (w p).2.1 (w p).1 (w p).2.2 i).2 (decide (s_mind S rule p t (nI (s_st S pl (w p).2.1 (w p).1 (w p).2.2 i).2) al = 1)) σ := by rw [pG_e, s_E_x, s_E_m, s_E_l]
      rw [eG]
      generalize hx : (s_st S pl (w p).2.1 (w p).1 (w p).2.2 i).1 = x at c3 g1 ⊢
      generalize hmn : (s_st S pl (w p).2.1 (w p).1 (w p).2.2 i).2 = mn at c4 g2 ⊢
      have cl := M_mind' (mn := nI mn) (al := al) cm.1 ws hp ht hr
      have b0 := hsb x
      have b1 := hle x
      have b2 := hsr x
      have r57 := i3 x (by omega)
      unfold B_X8_findSoon_68
      simp only [nc_let_eq]
      rw [nc_at_nI (by omega) (by omega), c1, if_neg (nI_ge hi (by omega)), nc_at_nI (by omega) (by omega), c3, c4, nI_1, i1]
      by_cases hh : σ.1 = true
      · have z10 : ¬ (1 : Int32) = 0 := by decide
        have e1 : nc_b σ.1 = 1 := if_pos hh
        rw [e1, if_neg z10, nc_at_nI (by omega) (by omega), nc_at_nI (by omega) (by omega), nc_at_nI (by omega) (by omega), r57, show (1 : Int32) ||| 0 = 1 by decide, show (1 : Int32) ||| 1 = 1 by decide]
        by_cases c : σ.2 x ≤ mn
        · refine ⟨y, 1, m, ⟨(if_pos (pS_has hh)).symm, ?_, ?_, i4⟩, ?_⟩
          · have e : (pS x mn (decide (s_mind S rule p t (nI mn) al = 1)) σ).2 = σ.2 := funext (fun q => if_neg (fun z => by omega))
            rw [e]; exact i2
          · have e : (pS x mn (decide (s_mind S rule p t (nI mn) al = 1)) σ).2 = σ.2 := funext (fun q => if_neg (fun z => by omega))
            rw [e]; exact i3
          · rw [if_pos (nI_le c (by omega)), if_neg (nI_nlt c (by omega)), cl]
            simp only [nc_some_bind]
            split <;> rfl
        · refine ⟨1, 1, nc_up m (M + 50) x (nI mn), ⟨(if_pos (pS_has hh)).symm, Or.inr ⟨rfl, x, ?_⟩, fun q hq => ?_, fun a k ha => ?_⟩, ?_⟩
          · have : (pS x mn (decide (s_mind S rule p t (nI mn) al = 1)) σ).2 x = mn := if_pos ⟨rfl, hh, by omega⟩
            rw [this]
            omega
          · by_cases e : q = x
            · subst e
              have : (pS q mn (decide (s_mind S rule p t (nI mn) al = 1)) σ).2 q = mn := if_pos ⟨rfl, hh, by omega⟩
              rw [this, nc_up_same]
            · have : (pS x mn (decide (s_mind S rule p t (nI mn) al = 1)) σ).2 q = σ.2 q := if_neg (fun z => e z.1)
              rw [this, nc_up_ne (by omega)]
              exact i3 q hq
          · rw [nc_up_ne (by omega)]
            exact i4 a k ha
          · have cm' : nc_MY S pl ps w M (nc_up m (M + 50) x (nI mn)) := nc_MY_fr h5 cm (fun a k h => nc_up_na (by omega))
            rw [if_neg (nI_ge (by omega) (by omega)), nc_up_same, if_neg (nI_nlt (Nat.le_refl _) (by omega)), M_mind' (mn := nI mn) (al := al) cm'.1 ws hp ht hr]
            simp only [nc_some_bind]
            split <;> rfl
      · have e1 : nc_b σ.1 = 0 := if_neg hh
        have e2 : (pS x mn (decide (s_mind S rule p t (nI mn) al = 1)) σ).2 = σ.2 := funext (fun q => if_neg (fun z => hh z.2.1))
        have e3 : (pS x mn (decide (s_mind S rule p t (nI mn) al = 1)) σ).1 = (decide (σ.2 x ≤ mn) && decide (s_mind S rule p t (nI mn) al = 1)) := by
          show (σ.1 || (decide ((if σ.1 = true ∧ mn < σ.2 x then mn else σ.2 x) ≤ mn) && _)) = _
          rw [if_neg (fun z => hh z.1)]
          simp [hh]
        rw [e1, e2, e3, if_pos rfl, nc_at_nI (by omega) (by omega), r57, cl, show (0 : Int32) ||| 0 = 0 by decide, show (0 : Int32) ||| 1 = 1 by decide]
        simp only [nc_some_bind]
        by_cases c : mn < σ.2 x
        · refine ⟨y, 0, m, ⟨?_, i2, i3, i4⟩, ?_⟩
          · rw [decide_eq_false (show ¬ σ.2 x ≤ mn by omega)]
            rfl
          · rw [if_pos (nI_lt c (by omega))]
        · rcases s_mind_01 S rule p t (nI mn) al with k | k
          · refine ⟨y, 0, m, ⟨?_, i2, i3, i4⟩, ?_⟩
            · rw [decide_eq_false (show ¬ s_mind S rule p t (nI mn) al = 1 by rw [k]; decide), Bool.and_false]
              rfl
            · rw [if_neg (nI_nlt (by omega) (by omega)), if_pos k]
          · refine ⟨y, 1, m, ⟨?_, i2, i3, i4⟩, ?_⟩
            · rw [decide_eq_true k, decide_eq_true (show σ.2 x ≤ mn by omega)]
              rfl
            · rw [if_neg (nI_nlt (by omega) (by omega)), if_neg (by rw [k]; decide)]) (fun rc y u m ⟨i1, i2, i3, i4⟩ => by
      have cm : nc_MY S pl ps w M m := nc_MY_fr h5 mx (fun a k h => i4 a k (by omega))
      have lenle := s_len_le (f := (w p).2.2) (g := (w p).2.1) (s_wf_ww ws) h3 (ok p hp).1
      unfold B_X8_findSoon_68
      simp only [nc_let_eq]
      rw [nc_at_nI (by omega) (by omega), (cm.2 p hp).1, if_pos (nI_le (Nat.le_refl _) (by omega)), nI_1]) (Nat.zero_le _) (by
      have := s_len_le (f := (w p).2.2) (g := (w p).2.1) (s_wf_ww ws) h3 (ok p hp).1
      omega) ⟨rfl, hfl, hs, fun _ _ _ => rfl⟩
  rw [pP_e, s_E_ln]
  exact ⟨y, m', ⟨e2, e3, e4⟩, el⟩
theorem M_rnd {M : Nat} {m0 : nc_Mem} {s : Nat → Nat} {rc8 : Int32 → nc_Mem → Option nc_Mem} (mx : nc_MY S pl ps w M m0) (ws : s_wf S n pl ps th) (ok : s_wok pl ps w) (hr : nc_ok rule 5) (ht : t < th) (hs : ∀ q, q < 7 → m0 (M + 50) q = nI (s q)) (hsb : ∀ q, s q ≤ 100000) : ∃ fl m', (nc_FL fl s (pR (s_E S pl ps rule t al w) s) ∧ (∀ q, q < 7 → m' (M + 50) q = nI (pR (s_E S pl ps rule t al w) s q)) ∧ ∀ a k, ¬ (a = M + 50 ∧ k < 7) → m' a k = m0 a k) ∧ nc_loop (fun _ _ _ => none) (B_X8_findSoon_53 M rule (nI t) al rc8) 200 0 0 m0 = rc8 fl m' := by
  have h5 := ws.2.2.2.2.1
  have w4 := ws.2.2.2.1
  have hps : ∀ m : nc_Mem, nc_MY S pl ps w M m → m M 7 = nI ps := fun m c => (congrArg s_ps c.1).trans w4
  rw [pR_e, s_E_1]
  exact nc_forI1 (z := fun _ _ _ => none) (B := B_X8_findSoon_53 M rule (nI t) al rc8) (s := 0) (n := 200) (y := (0 : Int32)) (x := m0) (fun p y m => nc_FL y s (nc_fo (pP (s_E S pl ps rule t al w)) p 0 s) ∧ (∀ q, q < 7 → m (M + 50) q = nI (nc_fo (pP (s_E S pl ps rule t al w)) p 0 s q)) ∧ ∀ a k, ¬ (a = M + 50 ∧ k < 7) → m a k = m0 a k) ps (fun y m => rc8 y m) (fun rc p y m _ hp ⟨i1, i2, i3⟩ => by
      have cm : nc_MY S pl ps w M m := nc_MY_fr h5 mx (fun a k h => i3 a k (by omega))
      obtain ⟨fl, m', ⟨f1, f2, f3⟩, e⟩ := M_carry (rc13 := rc) (al := al) cm ws ok hr hp ht i2 (fun q => Nat.le_trans (pF_le _ s p q) (hsb q)) i1 (fun q => pF_le _ s p q)
      rw [nc_fo_succ, Nat.zero_add]
      refine ⟨fl, m', ⟨f1, f2, fun a k hk => (f3 a k hk).trans (i3 a k hk)⟩, ?_⟩
      unfold B_X8_findSoon_53
      rw [hps m cm, if_neg (nI_ge hp (by omega))]
      exact e) (fun rc y m ⟨i1, i2, i3⟩ => by
      have cm : nc_MY S pl ps w M m := nc_MY_fr h5 mx (fun a k h => i3 a k (by omega))
      unfold B_X8_findSoon_53
      rw [hps m cm, if_pos (nI_le (Nat.le_refl _) (by omega))]) (Nat.zero_le _) (by omega) ⟨Or.inl ⟨rfl, rfl⟩, hs, fun _ _ _ => rfl⟩
theorem M_soon {M : Nat} {m0 : nc_Mem} (mx : nc_MY S pl ps w M m0) (ws : s_wf S n pl ps th) (ok : s_wok pl ps w) (hr : nc_ok rule 5) (ht : t < th) : ∃ m', f_X8_findSoon m0 M rule (nI t) al = some m' ∧ f_X8_soonestBy m0 M rule (nI t) al = some (m', s_soon S pl ps rule t al w) ∧ (∀ q, q < 7 → m' (M + 50) q = nI (s_sv S pl ps rule t al w q)) ∧ ∀ a k, ¬ (a = M + 50 ∧ k < 7) → m' a k = m0 a k := by
  have h5 := ws.2.2.2.2.1
  have h3 := ws.2.2.1
  have h7 := ws.2.2.2.2.2.2.1
  obtain ⟨-, -, ⟨ta, hta, eta⟩, ⟨tb, htb, etb⟩, -⟩ := ws.2.2.2.2.2.2.2.2.2.2 t ht
  have rT : ∀ m k, k < 10 → nc_MY S pl ps w M m → m (M + 19 + 1 + t) k = s_T S t k := fun m k hk c => (vM_T (by omega) hk).trans (by rw [c.1])
  have es : s_sv S pl ps rule t al w = pN (s_E S pl ps rule t al w) (s_s0 S t) 6 := rfl
  -- the rounds
  have key : ∀ m1 : nc_Mem, (∀ q, q < 7 → m1 (M + 50) q = nI (s_s0 S t q)) → (∀ a k, ¬ (a = M + 50 ∧ k < 7) → m1 a k = m0 a k) → ∃ m', nc_loop (fun _ _ => none) (B_X8_findSoon_42 M rule (nI t) al) 200 1 m1 = some m' ∧ (∀ q, q < 7 → m' (M + 50) q = nI (s_sv S pl ps rule t al w q)) ∧ ∀ a k, ¬ (a = M + 50 ∧ k < 7) → m' a k = m0 a k := by
    intro m1 hm1 hF1
    have := nc_loop_ind (z := fun _ _ => none) (B := B_X8_findSoon_42 M rule (nI t) al) (fun r κ => (∀ m, κ 0 m = some m) ∧ ∀ h m, h + r = 7 → 1 ≤ r → (∀ q, q < 7 → m (M + 50) q = nI (pN (s_E S pl ps rule t al w) (s_s0 S t) h q)) → (∀ a k, ¬ (a = M + 50 ∧ k < 7) → m a k = m0 a k) → ∃ m', κ 1 m = some m' ∧ (∀ q, q < 7 → m' (M + 50) q = nI (s_sv S pl ps rule t al w q)) ∧ ∀ a k, ¬ (a = M + 50 ∧ k < 7) → m' a k = m0 a k) (fun r κ ih => by
      refine ⟨fun m => ?_, fun h m hr7 hr1 hq hF => ?_⟩
      · unfold B_X8_findSoon_42
        rw [if_pos rfl]
      · have cm : nc_MY S pl ps w M m := nc_MY_fr h5 mx (fun a k h => hF a k (by omega))
        obtain ⟨fl, m', ⟨g1, g2, g3⟩, g4⟩ := M_rnd (al := al) (rc8 := κ) cm ws ok hr ht hq (fun q => s_sN_le _ S t h q)
        rw [← pN_s] at g1 g2
        have hF' : ∀ a k, ¬ (a = M + 50 ∧ k < 7) → m' a k = m0 a k := fun a k hk => (g3 a k hk).trans (hF a k hk)
        unfold B_X8_findSoon_42
        rw [if_neg (by decide), g4]
        rcases g1 with ⟨g, e⟩ | ⟨g, q, hq'⟩
        · rw [g, (ih 0 (by omega)).1]
          refine ⟨m', rfl, ?_, hF'⟩
          rw [es, ← s_E_fix ws ok e, ← e]
          exact g2
        · by_cases c : r = 1
          · have h6 : h = 6 := by omega
            subst h6
            have e6 := s_E_six (rule := rule) (al := al) (t := t) ws ok (s_s0 S t) (r := 6 + 1) (by omega)
            rw [e6] at hq'
            exact absurd hq' (Nat.lt_irrefl _)
          · rw [g]
            exact (ih (r - 1) (by omega)).2 (h + 1) m' (by omega) (by omega) g2 hF') 200 7 (by omega)
    exact this.2 0 m1 (by omega) (by omega) hm1 hF1
  -- the beginning
  obtain ⟨m1, ⟨f1, f2⟩, e1⟩ := nc_forI (z := fun _ _ => none) (B := B_X8_findSoon_3 M (fun mi2 => nc_at (nI t) 6 (fun j3 => nc_at (mi2 (M + 19 + 1 + j3) 2) 7 (fun j4 => nc_loop (fun _ _ => none) (B_X8_findSoon_42 M rule (nI t) al) 200 1 (nc_up mi2 (M + 50) j4 0))))) (s := 0) (n := 200) (x := m0) (fun i m1 => (∀ q, q < i → m1 (M + 50) q = 100000) ∧ ∀ a k, ¬ (a = M + 50 ∧ k < 7) → m1 a k = m0 a k) 7 (fun mi2 => nc_at (nI t) 6 (fun j3 => nc_at (mi2 (M + 19 + 1 + j3) 2) 7 (fun j4 => nc_loop (fun _ _ => none) (B_X8_findSoon_42 M rule (nI t) al) 200 1 (nc_up mi2 (M + 50) j4 0)))) (fun rc i m1 _ hi ⟨i1, i2⟩ => by
      refine ⟨nc_up m1 (M + 50) i 100000, ⟨fun q hq => ?_, fun a k hk => ?_⟩, ?_⟩
      · by_cases c : q = i
        · rw [c, nc_up_same]
        · rw [nc_up_ne (by omega)]
          exact i1 q (by omega)
      · rw [nc_up_ne (by omega)]
        exact i2 a k hk
      · unfold B_X8_findSoon_3
        simp only [nc_let_eq]
        rw [if_neg (show ¬ 7 ≤ nI i from nI_ge (b := 7) hi (by omega)), nc_at_nI hi (by omega), nI_1]) (fun rc m1 _ => by
      unfold B_X8_findSoon_3
      rw [if_pos (show 7 ≤ nI 7 by decide)]) (Nat.zero_le _) (by omega) ⟨fun q h => absurd h (Nat.not_lt_zero _), fun _ _ _ => rfl⟩
  have c1 : nc_MY S pl ps w M m1 := nc_MY_fr h5 mx (fun a k h => f2 a k (by omega))
  obtain ⟨m', k1, k2, k3⟩ := key (nc_up m1 (M + 50) ta 0) (fun q hq => by
      unfold s_s0
      rw [eta, s_cl_nI (by omega)]
      by_cases c : q = ta
      · rw [c, nc_up_same, if_pos rfl]
        rfl
      · rw [nc_up_ne (by omega), f1 q hq, if_neg c]
        rfl) (fun a k hk => by
      rw [nc_up_ne (by omega)]
      exact f2 a k hk)
  have ef : f_X8_findSoon m0 M rule (nI t) al = some m' := by
    unfold f_X8_findSoon
    simp only [nc_let_eq]
    refine e1.trans ?_
    rw [nc_at_nI (by omega) (by omega), rT m1 2 (by omega) c1, eta, nc_at_nI (by omega) (by omega)]
    exact k1
  refine ⟨m', ef, ?_, k2, k3⟩
  have cm : nc_MY S pl ps w M m' := nc_MY_fr h5 mx (fun a k h => k3 a k (by omega))
  have b := s_sN_le (s_E S pl ps rule t al w) S t 6 tb
  rw [← es] at b
  unfold f_X8_soonestBy
  rw [ef]
  simp only [nc_some_bind, nc_let_eq]
  rw [nc_at_nI (by omega) (by omega), rT m' 3 (by omega) cm, etb, nc_at_nI (by omega) (by omega), k2 tb (by omega)]
  unfold s_soon
  rw [etb, s_cl_nI (by omega)]
  by_cases c : s_sv S pl ps rule t al w tb < 100000
  · rw [if_pos c, if_neg (show ¬ 100000 ≤ nI (s_sv S pl ps rule t al w tb) from nI_ge (b := 100000) c (by omega))]
  · rw [if_neg c, if_pos (show 100000 ≤ nI (s_sv S pl ps rule t al w tb) from nI_le (a := 100000) (by omega) (by omega))]
end SOONM
