-- over whom: a step back
section OVT
variable {S : nc_S} {n pl ps th t : Nat} {X M : Nat} {m : nc_Mem} {rule : Int32} {w : nc_Wy}
theorem C_tstep {q N p : Nat} {s : Nat → Nat} (cx : nc_CX S pl ps rule (-9) w X m) (ws : s_wf S n pl ps th) (ok : s_wok pl ps w) (hp : p < ps) (ht : t < th) (hq : q < 7) (hs : ∀ q, q < 7 → m (X + 57) q = nI (s_cv (s q))) (hsb : ∀ q, s q ≤ 100000) (hsq : s q < 100000) (hN : m (X + 55) 4 = nI N) (hN7 : N < 7) {k1 : Option (nc_Mem × Int32)} {rc : Int32 → Option (nc_Mem × Int32)} : B_X2_traceStep_2 m X (nI t) (nI q) k1 rc (nI p) = match s_brg (s_E S pl ps rule t (-9) w) s p q with | some i => some (nc_up (nc_up m (X + 58) N (nI p)) (X + 55) 4 (nI (N + 1)), nI (s_st S pl (w p).2.1 (w p).1 (w p).2.2 i).1) | none => rc (nI (p + 1)) := by
  have h5 := ws.2.2.2.2.1
  have h3 := ws.2.2.1
  have lenle := s_len_le (f := (w p).2.2) (g := (w p).2.1) (s_wf_ww ws) h3 (ok p hp).1
  have hwc := cx.2.2.2 p hp
  have hps : m (X + 1) 5 = nI ps := (congrArg s_ps cx.1).trans ws.2.2.2.1
  have hidx := C_index (q := q) hwc (by omega) (fun i hi => by have := (s_E_mn ws ok hp hi).1; omega) hq
  obtain ⟨f1, f2, f3⟩ := s_fnd_q (P := fun j => decide ((s_st S pl (w p).2.1 (w p).1 (w p).2.2 j).1 = q)) (s_len S pl (w p).2.1 (w p).1 (w p).2.2) 0
  simp only [decide_eq_true_eq, Nat.zero_add] at f1 f2 f3
  have ej : s_fnd (fun j => decide ((s_st S pl (w p).2.1 (w p).1 (w p).2.2 j).1 = q)) (s_len S pl (w p).2.1 (w p).1 (w p).2.2) 0 = s_j0 S pl w p q := rfl
  rw [ej] at f1 f2 f3
  rw [s_brg_E]
  generalize s_j0 S pl w p q = j0 at f1 f2 f3
  unfold B_X2_traceStep_2
  simp only [nc_let_eq]
  rw [hps, if_neg (nI_ge hp (by omega)), nc_at_nI (by omega) (by omega)]
  by_cases c : j0 < s_len S pl (w p).2.1 (w p).1 (w p).2.2
  · obtain ⟨g1, g2⟩ := s_E_mn ws ok hp c
    rw [hidx.2 j0 c (f2 c) (fun j hj => f3 j (Nat.zero_le _) hj)]
    simp only [nc_some_bind]
    rw [if_neg (nI_pos (by omega)), nc_at_nI (by omega) (by omega), nc_at_nI hq (by omega), (hwc.2 j0 c).2, hs q hq, s_cv_s hsq, C_lastStart cx ws ok hp ht hs hsb c, hN, nI_1]
    by_cases c' : (s_st S pl (w p).2.1 (w p).1 (w p).2.2 j0).2 = s q
    · rw [if_pos (congrArg nI c'), if_pos ⟨c, c'⟩]
      simp only [nc_some_bind]
      cases hb : s_lastI (s_us S pl rule t w s p) j0 with
      | none =>
        rw [if_pos (show s_on (-1) none < 0 by decide)]
      | some i =>
        obtain ⟨k1', -⟩ := s_lastI_some hb
        show (if nI i < 0 then _ else _) = _
        rw [if_neg (nI_pos (by omega)), if_neg (show ¬ 7 ≤ nI N from nI_ge (b := 7) hN7 (by omega)), nc_at_nI hN7 (by omega)]
        show nc_at (nI i) 7 _ = _
        rw [nc_at_nI (by omega) (by omega), nc_up_na (by omega), hN, nI_1, nc_up_na (by omega), nc_up_na (by omega), (hwc.2 i (by omega)).1]
    · rw [if_neg (fun z => c' ((nI_eq (by omega) (by omega)).mp z)), if_neg (fun z => c' z.2)]
  · rw [hidx.1 (fun i hi => f3 i (Nat.zero_le _) (by omega)), if_neg (fun z => c z.1), nI_1]
    rfl
end OVT
