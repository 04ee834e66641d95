section OVV
variable {S : nc_S} {n pl ps th t : Nat} {X M : Nat} {m : nc_Mem} {w : nc_Wy}
theorem M_over (mx : nc_MY S pl ps w M m) (ws : s_wf S n pl ps th) (ok : s_wok pl ps w) (ht : t < th) (hs : ∀ q, q < 7 → m (M + 50) q = nI (s_sv S pl ps (s_lw S) t (-9) w q)) (hf : s_sv S pl ps (s_lw S) t (-9) w (s_cl (s_T S t 3)) < 100000) : ∃ m', f_X8_findOver m M (nI t) = some (m', nI (s_oN (s_E S pl ps (s_lw S) t (-9) w) (s_sv S pl ps (s_lw S) t (-9) w) (s_cl (s_T S t 2)) (s_cl (s_T S t 3)))) ∧ (∀ k, k < s_oN (s_E S pl ps (s_lw S) t (-9) w) (s_sv S pl ps (s_lw S) t (-9) w) (s_cl (s_T S t 2)) (s_cl (s_T S t 3)) → m' (M + 51) k = nI (s_op (s_E S pl ps (s_lw S) t (-9) w) (s_sv S pl ps (s_lw S) t (-9) w) (s_oq (s_E S pl ps (s_lw S) t (-9) w) (s_sv S pl ps (s_lw S) t (-9) w) (s_cl (s_T S t 3)) k))) ∧ ∀ a k, ¬ a = M + 51 → m' a k = m a k := by
  have h5 := ws.2.2.2.2.1
  have h3 := ws.2.2.1
  have h7 := ws.2.2.2.2.2.2.1
  obtain ⟨-, -, ⟨ta, hta, eta⟩, ⟨tb, htb, etb⟩, -⟩ := ws.2.2.2.2.2.2.2.2.2.2 t ht
  generalize hrl : s_lw S = rule at *
  have es : s_sv S pl ps rule t (-9) w = pN (s_E S pl ps rule t (-9) w) (s_s0 S t) 6 := rfl
  have hs0 : ∀ q, ¬ q = ta → s_s0 S t q = 100000 := fun q hq => ov_s (by rw [eta, s_cl_nI (by omega)]; exact hq)
  have hle := s_sN_le (s_E S pl ps rule t (-9) w) S t 6
  rw [eta, etb, s_cl_nI (by omega), s_cl_nI (by omega)]
  rw [etb, s_cl_nI (by omega)] at hf
  rw [es] at hs hf ⊢
  obtain ⟨o1, o2, o3⟩ := s_oN_p (a := ta) (b := tb) (ov_X (rule := rule) (t := t) ws ok) (ov_M ws ok) (ov_I ws ok) hs0 (ov_b ws ok) (by omega) hf
  have oq := s_oq_p (a := ta) (b := tb) (ov_X (rule := rule) (t := t) ws ok) (ov_M ws ok) (ov_I ws ok) hs0 (ov_b ws ok) (by omega) hf
  have op := fun {q : Nat} h => s_op_p (s0 := s_s0 S t) (q := q) (ov_I (rule := rule) (t := t) ws ok) h
  generalize hN0 : s_oN (s_E S pl ps rule t (-9) w) (pN (s_E S pl ps rule t (-9) w) (s_s0 S t) 6) ta tb = N0 at o1 o2 o3
  have rT : ∀ (m1 : nc_Mem) (k : Nat), k < 10 → (∀ a k, ¬ a = M + 51 → m1 a k = m a k) → m1 (M + 19 + 1 + t) k = s_T S t k := fun m1 k hk hF => (hF _ _ (by omega)).trans ((vM_T (by omega) hk).trans (by rw [mx.1]))
  have br : ∀ (m1 : nc_Mem) (p q : Nat), (∀ a k, ¬ a = M + 51 → m1 a k = m a k) → p < ps → q < 7 → f_X8_bringsFrom m1 M (nI p) (nI t) (nI q) (m1 (M + 50) q) = some (s_on (-9) (s_brg (s_E S pl ps rule t (-9) w) (pN (s_E S pl ps rule t (-9) w) (s_s0 S t) 6) p q)) := by
    intro m1 p q hF hp hq
    have m1x : nc_MY S pl ps w M m1 := nc_MY_fr h5 mx (fun a k h => hF a k (by omega))
    have := M_brings (p := p) (q := q) (s := pN (s_E S pl ps rule t (-9) w) (s_s0 S t) 6) m1x ws ok hp ht hq (fun q hq => (hF _ _ (by omega)).trans (hs q hq)) hle
    rw [hrl] at this
    rw [(hF _ _ (by omega)).trans (hs q hq)]
    exact this
  have key := nc_loop_ind (z := fun _ _ _ => none) (B := B_X8_findOver_11 M (nI t) t) (fun r κ => ∀ (k : Nat) (m1 : nc_Mem), k + r = N0 → ((∀ j, j < k → m1 (M + 51) j = nI (s_op (s_E S pl ps rule t (-9) w) (pN (s_E S pl ps rule t (-9) w) (s_s0 S t) 6) (s_oq (s_E S pl ps rule t (-9) w) (pN (s_E S pl ps rule t (-9) w) (s_s0 S t) 6) tb j))) ∧ ∀ a k, ¬ a = M + 51 → m1 a k = m a k) → ∃ m', κ (nI (s_oq (s_E S pl ps rule t (-9) w) (pN (s_E S pl ps rule t (-9) w) (s_s0 S t) 6) tb k)) (nI k) m1 = some (m', nI N0) ∧ (∀ j, j < N0 → m' (M + 51) j = nI (s_op (s_E S pl ps rule t (-9) w) (pN (s_E S pl ps rule t (-9) w) (s_s0 S t) 6) (s_oq (s_E S pl ps rule t (-9) w) (pN (s_E S pl ps rule t (-9) w) (s_s0 S t) 6) tb j))) ∧ ∀ a k, ¬ a = M + 51 → m' a k = m a k) (fun r κ ih k m1 hk ⟨i2, i3⟩ => by
    unfold B_X8_findOver_11
    simp only [nc_let_eq]
    rw [rT m1 2 (by omega) i3, eta]
    cases r with
    | zero =>
      have : k = N0 := by omega
      subst this
      rw [o2, if_pos rfl]
      exact ⟨m1, rfl, i2, i3⟩
    | succ r =>
      obtain ⟨q1, q2, -⟩ := oq k (fun j hj => o3 j (by omega))
      have hne := o3 k (by omega)
      obtain ⟨p1, p2, p3⟩ := op (q := s_oq (s_E S pl ps rule t (-9) w) (pN (s_E S pl ps rule t (-9) w) (s_s0 S t) 6) tb k) (by rw [hs0 _ hne]; exact q2)
      have en : s_oq (s_E S pl ps rule t (-9) w) (pN (s_E S pl ps rule t (-9) w) (s_s0 S t) 6) tb (k + 1) = (s_E S pl ps rule t (-9) w).2.2.1 (s_op (s_E S pl ps rule t (-9) w) (pN (s_E S pl ps rule t (-9) w) (s_s0 S t) 6) (s_oq (s_E S pl ps rule t (-9) w) (pN (s_E S pl ps rule t (-9) w) (s_s0 S t) 6) tb k)) (s_oi (s_E S pl ps rule t (-9) w) (pN (s_E S pl ps rule t (-9) w) (s_s0 S t) 6) (s_oq (s_E S pl ps rule t (-9) w) (pN (s_E S pl ps rule t (-9) w) (s_s0 S t) 6) tb k)) := rfl
      obtain ⟨jj, r1, r2, -⟩ := s_brg_p p2
      rw [s_E_x] at en
      rw [s_E_ln] at r1
      rw [s_E_1] at p1
      have lenle := s_len_le (f := (w (s_op (s_E S pl ps rule t (-9) w) (pN (s_E S pl ps rule t (-9) w) (s_s0 S t) 6) (s_oq (s_E S pl ps rule t (-9) w) (pN (s_E S pl ps rule t (-9) w) (s_s0 S t) 6) tb k))).2.2) (g := (w (s_op (s_E S pl ps rule t (-9) w) (pN (s_E S pl ps rule t (-9) w) (s_s0 S t) 6) (s_oq (s_E S pl ps rule t (-9) w) (pN (s_E S pl ps rule t (-9) w) (s_s0 S t) 6) tb k))).2.1) (s_wf_ww ws) h3 (ok _ p1).1
      generalize hqq : s_oq (s_E S pl ps rule t (-9) w) (pN (s_E S pl ps rule t (-9) w) (s_s0 S t) 6) tb k = q at *
      generalize hpp : s_op (s_E S pl ps rule t (-9) w) (pN (s_E S pl ps rule t (-9) w) (s_s0 S t) 6) q = p at *
      generalize hii : s_oi (s_E S pl ps rule t (-9) w) (pN (s_E S pl ps rule t (-9) w) (s_s0 S t) 6) q = i at *
      rw [if_neg (fun z => hne ((nI_eq (by omega) (by omega)).mp z))]
      have hF' : ∀ a k', ¬ a = M + 51 → nc_up m1 (M + 51) k (nI p) a k' = m a k' := fun a k' ha => (nc_up_na ha).trans (i3 a k' ha)
      obtain ⟨m', e', j1, j2⟩ := ih r (Nat.lt_succ_self r) (k + 1) (nc_up m1 (M + 51) k (nI p)) (by omega) ⟨fun j hj => by
        by_cases ce : j = k
        · rw [ce, nc_up_same, hqq, hpp]
        · rw [nc_up_ne (by omega)]
          exact i2 j (by omega), hF'⟩
      refine ⟨m', ?_, j1, j2⟩
      rw [← e']
      refine nc_fndL (P := fun _ => False) _ (q := p) (fun rc j hj _ => ?_) (fun rc => ?_) (by omega) (fun _ _ h => h)
      · unfold B_X8_findOver_26
        simp only [nc_let_eq]
        rw [nc_at_nI q1 (by omega), br m1 j q i3 (by omega) q1, p3 j hj, nI_1]
        rfl
      · unfold B_X8_findOver_26
        simp only [nc_let_eq]
        rw [nc_at_nI q1 (by omega), br m1 p q i3 p1 q1, p2]
        simp only [nc_some_bind]
        rw [if_neg (show ¬ s_on (-9) (some i) = -9 from nI_ne9 (by omega)), nc_at_nI (by omega) (by omega), nc_at_nI (by omega) (by omega), nc_at_nI q1 (by omega), br _ p q hF' p1 q1, p2]
        simp only [nc_some_bind]
        show nc_at (nI i) 7 _ = _
        rw [nc_at_nI (by omega) (by omega), hF' _ _ (by omega), ((mx.2 p p1).2 i (by omega)).1, nI_1, en]) 200 N0 (by omega) 0 m (by omega) ⟨fun j hj => absurd hj (Nat.not_lt_zero _), fun _ _ _ => rfl⟩
  obtain ⟨m', e', k2, k3⟩ := key
  refine ⟨m', ?_, k2, k3⟩
  unfold f_X8_findOver
  simp only [nc_let_eq]
  rw [nc_at_nI (by omega) (by omega), show m (M + 19 + 1 + t) 3 = nI tb from ((vM_T (by omega) (by omega)).trans (by rw [mx.1])).trans etb]
  exact e'
end OVV
