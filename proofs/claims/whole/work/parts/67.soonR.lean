theorem nc_FL_or {x y : Int32} {s0 s1 s2 : Nat → Nat} (h1 : nc_FL x s0 s1) (h2 : nc_FL y s1 s2) (l2 : ∀ q, s2 q ≤ s1 q) (l1 : ∀ q, s1 q ≤ s0 q) : nc_FL (if y = 0 then x else 1) s0 s2 := by
  rcases h2 with ⟨rfl, rfl⟩ | ⟨rfl, q, hq⟩
  · rw [if_pos rfl]
    exact h1
  · rw [if_neg (by decide)]
    exact Or.inr ⟨rfl, q, Nat.lt_of_lt_of_le hq (l1 q)⟩
theorem C_fill {m : nc_Mem} {r0 N : Nat} {v : Int32} (hN : N < 500) : ∃ m', f_J7_fill_53178 m r0 N v = some m' ∧ (∀ q, q < N → m' r0 q = v) ∧ ∀ a k, ¬ (a = r0 ∧ k < N) → m' a k = m a k := by
  obtain ⟨m', ⟨h1, h2⟩, e⟩ := nc_forI (z := fun _ _ => none) (B := B_J7_fill_53178_5 r0 N v (nI N)) (s := 0) (n := 500) (x := m) (fun i m1 => (∀ q, q < i → m1 r0 q = v) ∧ ∀ a k, ¬ (a = r0 ∧ k < N) → m1 a k = m a k) N some (fun rc i m1 _ hi ⟨i1, i2⟩ => by
      refine ⟨nc_up m1 r0 i v, ⟨fun q hq => ?_, fun a k hk => ?_⟩, ?_⟩
      · by_cases c : q = i
        · rw [c, nc_up_same]
        · rw [nc_up_ne (by omega)]
          exact i1 q (by omega)
      · rw [nc_up_ne (by omega)]
        exact i2 a k hk
      · unfold B_J7_fill_53178_5
        simp only [nc_let_eq]
        rw [if_neg (nI_ge hi (by omega)), nc_at_nI hi (by omega), nI_1]) (fun rc m1 _ => by
      unfold B_J7_fill_53178_5
      rw [if_pos (nI_le (Nat.le_refl _) (by omega))]) (Nat.zero_le _) (by omega) ⟨fun q h => absurd h (Nat.not_lt_zero _), fun _ _ _ => rfl⟩
  exact ⟨m', e, h1, h2⟩
theorem pR_e (E : nc_Ev) (s : Nat → Nat) : pR E s = nc_fo (pP E) E.1 0 s := rfl
theorem pN_s (E : nc_Ev) (s : Nat → Nat) (r : Nat) : pN E s (r + 1) = pR E (pN E s r) := rfl
theorem pF_le (E : nc_Ev) (s : Nat → Nat) (r : Nat) (q : Nat) : nc_fo (pP E) r 0 s q ≤ s q := nc_fo_inv (g := pP E) (fun _ s' => s' q ≤ s q) r 0 s (Nat.le_refl _) (fun i y _ _ h => Nat.le_trans (pP_le i y q) h)
section SOONR
variable {S : nc_S} {n pl ps th t : Nat} {rule al : Int32} {w : nc_Wy}
theorem C_rnd {X : Nat} {m0 : nc_Mem} {s : Nat → Nat} {x10 : Int32} {rc12 : Int32 → Int32 → nc_Mem → Option (nc_Mem × Int32)} (cx : nc_CX S pl ps rule al w X m0) (ws : s_wf S n pl ps th) (ok : s_wok pl ps w) (ht : t < th) (hs : ∀ q, q < 7 → m0 (X + 57) q = nI (s_cv (s q))) (hsb : ∀ q, s q ≤ 100000) : ∃ fl m', (nc_FL fl s (pR (s_E S pl ps rule t al w) s) ∧ (∀ q, q < 7 → m' (X + 57) q = nI (s_cv (pR (s_E S pl ps rule t al w) s q))) ∧ ∀ a k, ¬ (a = X + 57 ∧ k < 7) → m' a k = m0 a k) ∧ nc_loop (fun _ _ _ => none) (B_X2_soonestOf_50 X (nI t) x10 rc12) 200 0 0 m0 = rc12 fl (x10 + 1) m' := by
  have h5 := ws.2.2.2.2.1
  have w4 := ws.2.2.2.1
  have hps : ∀ m : nc_Mem, nc_CX S pl ps rule al w X m → m (X + 1) 5 = nI ps := fun m c => (congrArg s_ps c.1).trans w4
  rw [pR_e, s_E_1]
  exact nc_forI1 (z := fun _ _ _ => none) (B := B_X2_soonestOf_50 X (nI t) x10 rc12) (s := 0) (n := 200) (y := (0 : Int32)) (x := m0) (fun p y m => nc_FL y s (nc_fo (pP (s_E S pl ps rule t al w)) p 0 s) ∧ (∀ q, q < 7 → m (X + 57) q = nI (s_cv (nc_fo (pP (s_E S pl ps rule t al w)) p 0 s q))) ∧ ∀ a k, ¬ (a = X + 57 ∧ k < 7) → m a k = m0 a k) ps (fun y m => rc12 y (x10 + 1) m) (fun rc p y m _ hp ⟨i1, i2, i3⟩ => by
      have cm : nc_CX S pl ps rule al w X m := nc_CX_fr h5 cx (fun a k h => i3 a k (by omega))
      obtain ⟨m', fl, e, f1, f2, f3⟩ := C_carry cm ws ok hp ht i2 (fun q => Nat.le_trans (pF_le _ s p q) (hsb q))
      rw [nc_fo_succ, Nat.zero_add]
      refine ⟨if fl = 0 then y else 1, m', ⟨nc_FL_or i1 f1 (fun q => pP_le p _ q) (fun q => pF_le _ s p q), f2, fun a k hk => (f3 a k hk).trans (i3 a k hk)⟩, ?_⟩
      unfold B_X2_soonestOf_50
      simp only [nc_let_eq]
      rw [hps m cm, if_neg (nI_ge hp (by omega)), e]
      simp only [nc_some_bind]
      by_cases c : fl = 0
      · rw [if_pos c, if_pos c, nI_1]
      · rw [if_neg c, if_neg c, nI_1]) (fun rc y m ⟨i1, i2, i3⟩ => by
      have cm : nc_CX S pl ps rule al w X m := nc_CX_fr h5 cx (fun a k h => i3 a k (by omega))
      unfold B_X2_soonestOf_50
      simp only [nc_let_eq]
      rw [hps m cm, if_pos (nI_le (Nat.le_refl _) (by omega))]) (Nat.zero_le _) (by omega) ⟨Or.inl ⟨rfl, rfl⟩, hs, fun _ _ _ => rfl⟩
def s_s0 (S : nc_S) (t : Nat) (q : Nat) : Nat := if q = s_cl (s_T S t 2) then 0 else 100000
def s_sv (S : nc_S) (pl ps : Nat) (rule : Int32) (t : Nat) (al : Int32) (w : nc_Wy) : Nat → Nat := pN (s_E S pl ps rule t al w) (s_s0 S t) 6
/-- the soonest minute, or none -/
def s_soon (S : nc_S) (pl ps : Nat) (rule : Int32) (t : Nat) (al : Int32) (w : nc_Wy) : Int32 := if s_sv S pl ps rule t al w (s_cl (s_T S t 3)) < 100000 then nI (s_sv S pl ps rule t al w (s_cl (s_T S t 3))) else -9
theorem s_sN_le (E : nc_Ev) (S : nc_S) (t r q : Nat) : pN E (s_s0 S t) r q ≤ 100000 := by
  refine Nat.le_trans (pN_anti' (E := E) (s_s0 S t) q (Nat.zero_le r)) ?_
  show s_s0 S t q ≤ 100000
  unfold s_s0
  split <;> omega
theorem C_soon {X : Nat} {m0 : nc_Mem} (cx : nc_CX S pl ps rule al w X m0) (ws : s_wf S n pl ps th) (ok : s_wok pl ps w) (ht : t < th) : ∃ m', f_X2_soonestOf m0 X (nI t) = some (m', s_soon S pl ps rule t al w) ∧ (∀ q, q < 7 → m' (X + 57) q = nI (s_cv (s_sv S pl ps rule t al w q))) ∧ ∀ a k, ¬ (a = X + 57 ∧ k < 7) → m' a k = m0 a k := by
  have h5 := ws.2.2.2.2.1
  have h3 := ws.2.2.1
  have h7 := ws.2.2.2.2.2.2.1
  obtain ⟨-, -, ⟨ta, hta, eta⟩, ⟨tb, htb, etb⟩, -⟩ := ws.2.2.2.2.2.2.2.2.2.2 t ht
  obtain ⟨m1, e1, f1, f2⟩ := C_fill (m := m0) (r0 := X + 57) (N := 7) (v := 1000000) (by omega)
  have rT : ∀ m k, k < 10 → nc_CX S pl ps rule al w X m → m (X + 1 + 11 + t) k = s_T S t k := fun m k hk c => (vC_T (by omega) hk).trans (by rw [c.1])
  have c1 : nc_CX S pl ps rule al w X m1 := nc_CX_fr h5 cx (fun a k h => f2 a k (by omega))
  have c2 : nc_CX S pl ps rule al w X (nc_up m1 (X + 57) ta 0) := nc_CX_fr h5 c1 (fun a k h => nc_up_na (by omega))
  have key := nc_loop_ind (z := fun _ _ _ => none) (B := B_X2_soonestOf_34 X (nI t) (fun mi6 => nc_at (mi6 (X + 1 + 11 + t) 3) 7 (fun j7 => if (mi6 (X + 57) j7) < 1000000 then some (mi6, (mi6 (X + 57) j7)) else some (mi6, (-9 : Int32))))) (fun r κ => ∀ h m (x9 : Int32), h + r = 8 → (x9 = 1 ∨ (x9 = 0 ∧ pN (s_E S pl ps rule t al w) (s_s0 S t) h = pN (s_E S pl ps rule t al w) (s_s0 S t) 6)) → (∀ q, q < 7 → m (X + 57) q = nI (s_cv (pN (s_E S pl ps rule t al w) (s_s0 S t) h q))) → (∀ a k, ¬ (a = X + 57 ∧ k < 7) → m a k = m0 a k) → ∃ m', κ x9 (nI h) m = some (m', s_soon S pl ps rule t al w) ∧ (∀ q, q < 7 → m' (X + 57) q = nI (s_cv (s_sv S pl ps rule t al w q))) ∧ ∀ a k, ¬ (a = X + 57 ∧ k < 7) → m' a k = m0 a k) (fun r κ ih h m x9 hr hx hq hF => by
    have cm : nc_CX S pl ps rule al w X m := nc_CX_fr h5 cx (fun a k h => hF a k (by omega))
    have fin : pN (s_E S pl ps rule t al w) (s_s0 S t) h = pN (s_E S pl ps rule t al w) (s_s0 S t) 6 → (nc_at (m (X + 1 + 11 + t) 3) 7 (fun j7 => if (m (X + 57) j7) < 1000000 then some (m, (m (X + 57) j7)) else some (m, (-9 : Int32)))) = some (m, s_soon S pl ps rule t al w) ∧ (∀ q, q < 7 → m (X + 57) q = nI (s_cv (s_sv S pl ps rule t al w q))) := by
      intro e
      have es : s_sv S pl ps rule t al w = pN (s_E S pl ps rule t al w) (s_s0 S t) 6 := rfl
      rw [e] at hq
      refine ⟨?_, fun q hq' => by rw [es]; exact hq q hq'⟩
      have b := s_sN_le (s_E S pl ps rule t al w) S t 6 tb
      have b' := s_cv_b b
      rw [rT m 3 (by omega) cm, etb, nc_at_nI (by omega) (by omega), hq tb (by omega)]
      unfold s_soon
      rw [es, etb, s_cl_nI (by omega)]
      by_cases c : pN (s_E S pl ps rule t al w) (s_s0 S t) 6 tb < 100000
      · rw [if_pos c, s_cv_s c, if_pos (show nI (pN (s_E S pl ps rule t al w) (s_s0 S t) 6 tb) < 1000000 from nI_lt (b := 1000000) (by omega) (by omega))]
      · have e9 : s_cv (pN (s_E S pl ps rule t al w) (s_s0 S t) 6 tb) = 1000000 := by
          unfold s_cv
          rw [if_pos (by omega)]
        rw [if_neg c, e9, if_neg (show ¬ nI 1000000 < 1000000 by decide)]
    unfold B_X2_soonestOf_34
    by_cases h8 : h = 8
    · subst h8
      rw [if_pos (show 7 < nI 8 by decide)]
      obtain ⟨g1, g2⟩ := fin (s_E_six ws ok _ (by omega))
      exact ⟨m, g1, g2, hF⟩
    · rw [if_neg (show ¬ 7 < nI h from nI_nlt (a := 7) (b := h) |> fun z => by
        intro c
        have : 7 < h := (nI_ltI (a := 7) (by omega) (by omega)).mp c
        omega)]
      rcases hx with rfl | ⟨rfl, e⟩
      · rw [if_neg (by decide)]
        obtain ⟨fl, m', ⟨g1, g2, g3⟩, g4⟩ := C_rnd (x10 := nI h) (rc12 := κ) cm ws ok ht hq (fun q => s_sN_le _ S t h q)
        rw [← pN_s] at g1 g2
        rw [g4, nI_1]
        refine ih (r - 1) (by omega) (h + 1) m' fl (by omega) ?_ g2 (fun a k hk => (g3 a k hk).trans (hF a k hk))
        rcases g1 with ⟨g, e⟩ | ⟨g, -⟩
        · exact Or.inr ⟨g, e.trans (s_E_fix ws ok e)⟩
        · exact Or.inl g
      · rw [if_pos rfl]
        obtain ⟨g1, g2⟩ := fin e
        exact ⟨m, g1, g2, hF⟩) 200 8 (by omega) 0 (nc_up m1 (X + 57) ta 0) 1 (by omega) (Or.inl rfl) (fun q hq => by
      show _ = nI (s_cv (s_s0 S t q))
      unfold s_s0
      rw [eta, s_cl_nI (by omega)]
      by_cases c : q = ta
      · rw [c, nc_up_same, if_pos rfl]
        rfl
      · rw [nc_up_ne (by omega), f1 q hq, if_neg c]
        rfl) (fun a k hk => by
      rw [nc_up_ne (by omega)]
      exact f2 a k hk)
  obtain ⟨m', k1, k2, k3⟩ := key
  refine ⟨m', ?_, k2, k3⟩
  unfold f_X2_soonestOf
  rw [nc_at_nI (by omega) (by omega), e1]
  simp only [nc_some_bind, nc_let_eq]
  rw [rT m1 2 (by omega) c1, eta, nc_at_nI (by omega) (by omega)]
  exact k1
end SOONR
