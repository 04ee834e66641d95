-- drawn days: both
def nc_SIMz (n : Nat) (A : nc_A) (LS : nc_Mem → Prop) (X M : Nat) (g1 : nc_Mem → Option (nc_Mem × Int32)) (g2 : nc_Mem → Nat → Nat → Option (nc_Mem × Int32)) : Prop := ∃ r A', nc_WF (n + 1) A' ∧ (∀ mi, aC mi X = A → LS mi → nc_CS mi X r A' (g1 mi)) ∧ (∀ mi z nz tr, tr = (if z = 0 then nz else z) → (tr + 54 ≤ M ∨ M + 54 ≤ tr) → aM mi M = A → ∃ mi', g2 mi z nz = some (mi', r) ∧ aM mi' M = A' ∧ ∀ a k, (a < M ∨ M + 54 ≤ a) → (a < tr ∨ tr + 54 ≤ a) → mi' a k = mi a k) ∧ s_w A'.1 = s_w A.1
theorem nc_SIMz_of {n : Nat} {A : nc_A} {LS : nc_Mem → Prop} {X M : Nat} {g1 g2 : nc_Mem → Option (nc_Mem × Int32)} {g3 : nc_Mem → Nat → Nat → Option (nc_Mem × Int32)} (h : nc_SIM n A LS X M g1 g2) (e : ∀ mi z nz, g3 mi z nz = g2 mi) : nc_SIMz n A LS X M g1 g3 := by
  obtain ⟨r, A', h1, h2, h3, h4⟩ := h
  refine ⟨r, A', h1, h2, fun mi z nz tr _ _ ha => ?_, h4⟩
  obtain ⟨m', k1, k2, k3⟩ := h3 mi ha
  exact ⟨m', (e mi z nz).trans k1, k2, fun a k h _ => k3 a k h⟩
def s_dN (S : nc_S) (pl ps th : Nat) (z : Int32) (d : Nat) : Int32 × Int32 := nc_fo (fun _ => s_dd S pl ps th) d 0 (0, z)
theorem s_dN_s (S : nc_S) (pl ps th : Nat) (z : Int32) (d : Nat) : s_dN S pl ps th z (d + 1) = s_dd S pl ps th (s_dN S pl ps th z d) := nc_fo_succ _ _ _ _
section DAYS
variable {n : Nat} {A : nc_A} {X M : Nat}
theorem sim_days (wf : nc_WF n A) (a b : Int32) : nc_SIMz n A (nc_lst A.1 (X + 1)) X M (fun mi => f_X7_days mi X a b) (fun mi z nz => f_X8_days mi M z nz a b) := by
  obtain ⟨⟨pl, ps, th, ws⟩, wl, wr⟩ := id wf
  obtain ⟨w1, w2, w3, w4, w5, w6, w7, w8, w9, w10, w11⟩ := id ws
  by_cases h0 : 1 ≤ a
  · by_cases h1 : a ≤ 14
    · have hb : ¬ a < 0 := fun z => absurd (Int32.lt_of_le_of_lt h0 z) (by decide)
      obtain ⟨N, hN, rfl⟩ := nI_of2 (n := 14) (by decide) hb h1
      refine ⟨(s_dN A.1 pl ps th b N).1, A, nc_WF_mono wf (by omega), fun mi h hl => ?_, fun mi z nz tr htr hap h => ?_, rfl⟩
      · obtain ⟨m1, e1, cx, hl1, F1⟩ := C_recall (C_v h) hl ws
        have vv : ∀ m : nc_Mem, (∀ a k, ¬ (X + 55 ≤ a ∧ a < X + 77) → m a k = mi a k) → vC m (X + 1) = A.1 := fun m hF => by
          rw [← C_v h]
          exact vC_fr (fun a k a1 a2 a3 => hF a k (by omega))
        obtain ⟨y, m2, ⟨i1, i2, i3, i4, i5⟩, e2⟩ := nc_forI1 (z := fun _ _ _ => none) (B := B_X2_inTimeOnDays_10 X (nI N)) (s := 0) (n := 200) (y := 0) (x := nc_up m1 (X + 55) 7 b) (fun d y m => y = (s_dN A.1 pl ps th b d).1 ∧ m (X + 55) 7 = (s_dN A.1 pl ps th b d).2 ∧ m (X + 55) 5 = s_lw A.1 ∧ m (X + 55) 6 = -9 ∧ ∀ a k, ¬ (X + 55 ≤ a ∧ a < X + 77) → m a k = mi a k) N (fun y m => some (m, y)) (fun rc d y m _ hd ⟨j1, j2, j3, j4, j5⟩ => by
            obtain ⟨m', e, k1, k2, k3, k4⟩ := C_day (day := d) (rc5 := rc) (y := y) (vv m j5) (fun a c ha hc => (j5 _ _ (by omega)).trans (hl a c ha hc)) j3 j4 j2 ws
            refine ⟨nc_fo (s_dg A.1 pl ps (s_dN A.1 pl ps th b d).2) th 0 y, m', ⟨?_, ?_, k1, k2, fun a k ha => (k4 a k ha).trans (j5 a k ha)⟩, ?_⟩
            · rw [s_dN_s]
              unfold s_dd
              rw [← j1]
            · rw [s_dN_s]
              exact k3
            · unfold B_X2_inTimeOnDays_10
              rw [if_neg (nI_ge hd (by omega))]
              exact e) (fun rc y m _ => by
            unfold B_X2_inTimeOnDays_10
            rw [if_pos (nI_le (Nat.le_refl _) (by omega))]) (Nat.zero_le _) (by omega) ⟨rfl, nc_up_same, (nc_up_ne (by omega)).trans cx.2.1, (nc_up_ne (by omega)).trans cx.2.2.1, fun a k ha => (nc_up_na (by omega)).trans (F1 a k ha)⟩
        refine ⟨m2, ?_, ?_, fun a k hc => i5 a k (by omega)⟩
        · show f_X7_days mi X _ _ = _
          unfold f_X7_days
          rw [if_pos h0, if_pos h1, e1]
          simp only [nc_some_bind]
          unfold f_X2_inTimeOnDays
          simp only [nc_let_eq]
          rw [show nc_loop (fun _ _ _ => none) (B_X2_inTimeOnDays_10 X (nI N)) 200 0 0 (nc_up m1 (X + 55) 7 b) = some (m2, y) from e2, ← i1]
          rfl
        · rw [← h]
          exact aC_fr (fun a k h1 h2 h3 h4 h5 => i5 a k (by omega))
      · obtain ⟨m1, e1, v1, F1⟩ := M_takeFrom (mi := if z = 0 then nc_up mi nz 5 4 else mi) (o := tr) (r := M) (by omega)
        have f0 : ∀ a k, (a < tr ∨ tr + 54 ≤ a) → (if z = 0 then nc_up mi nz 5 4 else mi) a k = mi a k := fun a k ha => by
          split
          · rename_i c
            rw [if_pos c] at htr
            exact nc_up_na (by omega)
          · rfl
        have f1 : ∀ a k, (a < tr ∨ tr + 54 ≤ a) → m1 a k = mi a k := fun a k ha => (F1 a k (by omega)).trans (f0 a k ha)
        have v1' : vM m1 tr = A.1 := by
          rw [v1, ← M_v h]
          exact vM_fr (fun a k h1 h2 => f0 a k (by omega))
        obtain ⟨y, m2, ⟨i1, i2, ⟨S', i3, i4, i4'⟩, i5⟩, e2⟩ := nc_forI1 (z := fun _ _ _ => none) (B := B_X8_days_61 M (nI N) tr) (s := 0) (n := 200) (y := 0) (x := nc_up m1 M 27 b) (fun d y m => y = (s_dN A.1 pl ps th b d).1 ∧ m M 27 = (s_dN A.1 pl ps th b d).2 ∧ (∃ S', vM m tr = S' ∧ s_lk A.1 S' ∧ s_wf S' n pl ps th) ∧ ∀ a k, ¬ ((a = M ∧ k = 27) ∨ (tr ≤ a ∧ a < tr + 54)) → m a k = mi a k) N (fun y m => some (m, y)) (fun rc d y m _ hd ⟨j1, j2, ⟨S', j3, j4, j4'⟩, j5⟩ => by
            obtain ⟨m', S'', e, k1, k2, k3, k4, k5⟩ := M_day (M := M) (day := d) (rc10 := rc) (y := y) j4 j3 ((j5 M 7 (by omega)).trans ((M_ps h).trans w4)) ((j5 M 9 (by omega)).trans ((M_th h).trans w6)) j2 j4' hap
            refine ⟨nc_fo (s_dg A.1 pl ps (s_dN A.1 pl ps th b d).2) th 0 y, m', ⟨?_, ?_, ⟨S'', k1, k2, k3⟩, fun a k ha => (k5 a k ha).trans (j5 a k ha)⟩, ?_⟩
            · rw [s_dN_s]
              unfold s_dd
              rw [← j1]
            · rw [s_dN_s]
              exact k4
            · unfold B_X8_days_61
              simp only [nc_let_eq]
              rw [if_neg (nI_ge hd (by omega))]
              exact e) (fun rc y m _ => by
            unfold B_X8_days_61
            rw [if_pos (nI_le (Nat.le_refl _) (by omega))]) (Nat.zero_le _) (by omega) ⟨rfl, nc_up_same, ⟨A.1, by rw [← v1']; exact vM_fr (fun a k h1 h2 => nc_up_na (by omega)), s_lk_r _, ws⟩, fun a k ha => (nc_up_ne (by omega)).trans (f1 a k (by omega))⟩
        refine ⟨m2, ?_, ?_, fun a k hc hc' => i5 a k (by omega)⟩
        · show f_X8_days mi M z nz _ _ = _
          unfold f_X8_days
          simp only [nc_let_eq]
          rw [if_pos h0, if_pos h1]
          rw [show (if z = 0 then nz + 0 else z) = tr from htr.symm]
          rw [show f_X8_takeFrom (if z = 0 then nc_up mi (nz + 0) 5 4 else mi) tr M = some m1 from e1]
          simp only [nc_some_bind]
          rw [← i1]
          exact e2
        · rw [← h]
          have g : ∀ a k, M ≤ a → a < M + 26 → ¬ (a = M ∧ k = 27) → m2 a k = mi a k := fun a k h1 h2 h3 => i5 a k (by omega)
          simp only [aM, vM, Prod.mk.injEq]
          refine ⟨⟨?_, ?_, ?_, ?_, ?_, ?_, ?_⟩, ⟨?_, ?_⟩, ⟨?_, ?_⟩, ?_⟩ <;> (try funext i) <;> (try funext j) <;> (try split) <;> first | rfl | exact g _ _ (by omega) (by omega) (by omega)
    · refine nc_SIMz_of (g2 := fun mi => Option.bind (f_X8_refuse mi M (-6)) (fun q => some (q.1, q.2))) (nc_SIM_ref wf 6 (by omega) (fun mi h hl => ?_) (fun mi h => rfl)) (fun mi z nz => ?_)
      · show f_X7_days mi X _ _ = _
        unfold f_X7_days
        rw [if_pos h0, if_neg h1]
        rfl
      · show f_X8_days mi M z nz _ _ = _
        unfold f_X8_days
        rw [if_pos h0, if_neg h1]
  · refine nc_SIMz_of (g2 := fun mi => Option.bind (f_X8_refuse mi M (-4)) (fun q => some (q.1, q.2))) (nc_SIM_ref wf 4 (by omega) (fun mi h hl => ?_) (fun mi h => rfl)) (fun mi z nz => ?_)
    · show f_X7_days mi X _ _ = _
      unfold f_X7_days
      rw [if_neg h0]
      rfl
    · show f_X8_days mi M z nz _ _ = _
      unfold f_X8_days
      rw [if_neg h0]
end DAYS
