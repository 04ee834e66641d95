section OVW
variable {S : nc_S} {n pl ps th t : Nat} {X M : Nat} {m : nc_Mem} {rule : Int32} {w : nc_Wy}
theorem C_trace (cx : nc_CX S pl ps rule (-9) w X m) (ws : s_wf S n pl ps th) (ok : s_wok pl ps w) (ht : t < th) (hs : ∀ q, q < 7 → m (X + 57) q = nI (s_cv (s_sv S pl ps rule t (-9) w q))) (hf : s_sv S pl ps rule t (-9) w (s_cl (s_T S t 3)) < 100000) : ∃ m', f_X2_traceBack m X (nI t) = some m' ∧ m' (X + 55) 4 = nI (s_oN (s_E S pl ps rule t (-9) w) (s_sv S pl ps rule t (-9) w) (s_cl (s_T S t 2)) (s_cl (s_T S t 3))) ∧ (∀ k, k < s_oN (s_E S pl ps rule t (-9) w) (s_sv S pl ps rule t (-9) w) (s_cl (s_T S t 2)) (s_cl (s_T S t 3)) → m' (X + 58) k = nI (s_op (s_E S pl ps rule t (-9) w) (s_sv S pl ps rule t (-9) w) (s_oq (s_E S pl ps rule t (-9) w) (s_sv S pl ps rule t (-9) w) (s_cl (s_T S t 3)) k))) ∧ ∀ a k, ¬ ((a = X + 55 ∧ k = 4) ∨ a = X + 58) → m' a k = m a k := by
  have h5 := ws.2.2.2.2.1
  have h3 := ws.2.2.1
  have h7 := ws.2.2.2.2.2.2.1
  obtain ⟨-, -, ⟨ta, hta, eta⟩, ⟨tb, htb, etb⟩, -⟩ := ws.2.2.2.2.2.2.2.2.2.2 t ht
  have es : s_sv S pl ps rule t (-9) w = pN (s_E S pl ps rule t (-9) w) (s_s0 S t) 6 := rfl
  have hs0 : ∀ q, ¬ q = ta → s_s0 S t q = 100000 := fun q hq => ov_s (by rw [eta, s_cl_nI (by omega)]; exact hq)
  have hle := s_sN_le (s_E S pl ps rule t (-9) w) S t 6
  rw [eta, etb, s_cl_nI (by omega), s_cl_nI (by omega)]
  rw [etb, s_cl_nI (by omega)] at hf
  rw [es] at hs hf ⊢
  obtain ⟨o1, o2, o3⟩ := s_oN_p (a := ta) (b := tb) (ov_X (rule := rule) (t := t) ws ok) (ov_M ws ok) (ov_I ws ok) hs0 (ov_b ws ok) (by omega) hf
  have oq := s_oq_p (a := ta) (b := tb) (ov_X (rule := rule) (t := t) ws ok) (ov_M ws ok) (ov_I ws ok) hs0 (ov_b ws ok) (by omega) hf
  have op := fun {q : Nat} h => s_op_p (s0 := s_s0 S t) (q := q) (ov_I (rule := rule) (t := t) ws ok) h
  generalize hN0 : s_oN (s_E S pl ps rule t (-9) w) (pN (s_E S pl ps rule t (-9) w) (s_s0 S t) 6) ta tb = N0 at o1 o2 o3
  have rT : ∀ (m1 : nc_Mem) (k : Nat), k < 10 → (∀ a k, ¬ ((a = X + 55 ∧ k = 4) ∨ a = X + 58) → m1 a k = m a k) → m1 (X + 1 + 11 + t) k = s_T S t k := fun m1 k hk hF => (hF _ _ (by omega)).trans ((vC_T (by omega) hk).trans (by rw [cx.1]))
  have key := nc_loop_ind (z := fun _ _ _ => none) (B := B_X2_traceBack_23 X (nI t) t) (fun r κ => ∀ (k : Nat) (m1 : nc_Mem), k + r = N0 → (m1 (X + 55) 4 = nI k ∧ (∀ j, j < k → m1 (X + 58) j = nI (s_op (s_E S pl ps rule t (-9) w) (pN (s_E S pl ps rule t (-9) w) (s_s0 S t) 6) (s_oq (s_E S pl ps rule t (-9) w) (pN (s_E S pl ps rule t (-9) w) (s_s0 S t) 6) tb j))) ∧ ∀ a k, ¬ ((a = X + 55 ∧ k = 4) ∨ a = X + 58) → m1 a k = m a k) → ∃ m', κ (nI (s_oq (s_E S pl ps rule t (-9) w) (pN (s_E S pl ps rule t (-9) w) (s_s0 S t) 6) tb k)) (nI k) m1 = some m' ∧ m' (X + 55) 4 = nI N0 ∧ (∀ j, j < N0 → m' (X + 58) j = nI (s_op (s_E S pl ps rule t (-9) w) (pN (s_E S pl ps rule t (-9) w) (s_s0 S t) 6) (s_oq (s_E S pl ps rule t (-9) w) (pN (s_E S pl ps rule t (-9) w) (s_s0 S t) 6) tb j))) ∧ ∀ a k, ¬ ((a = X + 55 ∧ k = 4) ∨ a = X + 58) → m' a k = m a k) (fun r κ ih k m1 hk ⟨i1, i2, i3⟩ => by
    unfold B_X2_traceBack_23
    simp only [nc_let_eq]
    rw [if_neg (show ¬ 7 ≤ nI k from nI_ge (b := 7) (by omega) (by omega)), rT m1 2 (by omega) i3, eta]
    cases r with
    | zero =>
      have : k = N0 := by omega
      subst this
      rw [o2, if_pos rfl]
      exact ⟨m1, rfl, i1, i2, i3⟩
    | succ r =>
      obtain ⟨q1, q2, -⟩ := oq k (fun j hj => o3 j (by omega))
      have hne := o3 k (by omega)
      obtain ⟨p1, p2, p3⟩ := op (q := s_oq (s_E S pl ps rule t (-9) w) (pN (s_E S pl ps rule t (-9) w) (s_s0 S t) 6) tb k) (by rw [hs0 _ hne]; exact q2)
      have en : s_oq (s_E S pl ps rule t (-9) w) (pN (s_E S pl ps rule t (-9) w) (s_s0 S t) 6) tb (k + 1) = (s_E S pl ps rule t (-9) w).2.2.1 (s_op (s_E S pl ps rule t (-9) w) (pN (s_E S pl ps rule t (-9) w) (s_s0 S t) 6) (s_oq (s_E S pl ps rule t (-9) w) (pN (s_E S pl ps rule t (-9) w) (s_s0 S t) 6) tb k)) (s_oi (s_E S pl ps rule t (-9) w) (pN (s_E S pl ps rule t (-9) w) (s_s0 S t) 6) (s_oq (s_E S pl ps rule t (-9) w) (pN (s_E S pl ps rule t (-9) w) (s_s0 S t) 6) tb k)) := rfl
      rw [s_E_x] at en
      rw [s_E_1] at p1
      generalize hqq : s_oq (s_E S pl ps rule t (-9) w) (pN (s_E S pl ps rule t (-9) w) (s_s0 S t) 6) tb k = q at *
      generalize hpp : s_op (s_E S pl ps rule t (-9) w) (pN (s_E S pl ps rule t (-9) w) (s_s0 S t) 6) q = p at *
      have cm : nc_CX S pl ps rule (-9) w X m1 := nc_CX_fr h5 cx (fun a k h => i3 a k (by omega))
      have hs1 : ∀ q, q < 7 → m1 (X + 57) q = nI (s_cv (pN (s_E S pl ps rule t (-9) w) (s_s0 S t) 6 q)) := fun q hq => (i3 _ _ (by omega)).trans (hs q hq)
      have step := fun {p' : Nat} hp' k1 rc => C_tstep (k1 := k1) (rc := rc) (p := p') cm ws ok hp' ht q1 hs1 hle q2 i1 (by omega)
      have et : f_X2_traceStep m1 X (nI t) (nI q) = some (nc_up (nc_up m1 (X + 58) k (nI p)) (X + 55) 4 (nI (k + 1)), nI (s_st S pl (w p).2.1 (w p).1 (w p).2.2 (s_oi (s_E S pl ps rule t (-9) w) (pN (s_E S pl ps rule t (-9) w) (s_s0 S t) 6) q)).1) := by
        unfold f_X2_traceStep
        simp only [nc_let_eq]
        exact nc_fndL (P := fun _ => False) _ (q := p) (fun rc j hj _ => by rw [step (p' := j) (by omega), p3 j hj]) (fun rc => by rw [step p1, p2]) (by omega) (fun _ _ h => h)
      rw [if_neg (fun z => hne ((nI_eq (by omega) (by omega)).mp z)), et]
      simp only [nc_some_bind]
      rw [nI_1, ← en]
      refine ih r (Nat.lt_succ_self r) (k + 1) _ (by omega) ⟨nc_up_same, fun j hj => ?_, fun a k' ha => by rw [nc_up_ne (by omega), nc_up_na (by omega)]; exact i3 a k' ha⟩
      by_cases ce : j = k
      · rw [ce, nc_up_na (by omega), nc_up_same, hqq, hpp]
      · rw [nc_up_na (by omega), nc_up_ne (by omega)]
        exact i2 j (by omega)) 200 N0 (by omega) 0 (nc_up m (X + 55) 4 0) (by omega) ⟨nc_up_same, fun j hj => absurd hj (Nat.not_lt_zero _), fun a k ha => nc_up_ne (by omega)⟩
  obtain ⟨m', e', k1, k2, k3⟩ := key
  refine ⟨m', ?_, k1, k2, k3⟩
  unfold f_X2_traceBack
  simp only [nc_let_eq]
  rw [nc_at_nI (by omega) (by omega), show m (X + 1 + 11 + t) 3 = nI tb from ((vC_T (by omega) (by omega)).trans (by rw [cx.1])).trans etb]
  exact e'
end OVW
