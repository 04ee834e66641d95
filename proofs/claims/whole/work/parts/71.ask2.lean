section ASK4
variable {n : Nat} {A : nc_A} {X M : Nat}
theorem sim_why (wf : nc_WF n A) (a : Int32) : nc_SIM n A (nc_lst A.1 (X + 1)) X M (fun mi => f_X7_why mi X a) (fun mi => f_X8_why mi M a) := by
  refine sim_t (g1 := fun mi a => f_X7_why mi X a) (g2 := fun mi a => f_X8_why mi M a) wf a (fun mi th e hs ha => ?_) (fun mi th e hs ha => ?_) (fun pl ps th t ws ht ea => ?_)
  · show f_X7_why mi X a = _
    unfold f_X7_why
    rw [C_isTn e ha, if_pos rfl]
    rfl
  · show f_X8_why mi M a = _
    unfold f_X8_why
    rw [M_isTn e hs ha]
    rfl
  · subst ea
    obtain ⟨w1, w2, w3, w4, w5, w6, w7, w8, w9, w10, w11⟩ := id ws
    obtain ⟨-, -, ⟨ta, hta, eta⟩, ⟨tb, htb, etb⟩, -⟩ := w11 t ht
    have ex : ∃ r : Int32, (if s_soon A.1 pl ps (s_lw A.1) t (-9) (s_w0 A.1) = -9 then ((¬ ∃ p, p < ps ∧ s_cby A.1 pl ps (s_lw A.1) t (s_w0 A.1) ta p) ∧ r = 1) ∨ ((∃ p, p < ps ∧ s_cby A.1 pl ps (s_lw A.1) t (s_w0 A.1) ta p) ∧ ((¬ ∃ p, p < ps ∧ s_cby A.1 pl ps (s_lw A.1) t (s_w0 A.1) tb p) ∧ r = 2 ∨ (∃ p, p < ps ∧ s_cby A.1 pl ps (s_lw A.1) t (s_w0 A.1) tb p) ∧ r = 4)) else r = 0) := by
      by_cases c : s_soon A.1 pl ps (s_lw A.1) t (-9) (s_w0 A.1) = -9
      · by_cases c1 : ∃ p, p < ps ∧ s_cby A.1 pl ps (s_lw A.1) t (s_w0 A.1) ta p
        · by_cases c2 : ∃ p, p < ps ∧ s_cby A.1 pl ps (s_lw A.1) t (s_w0 A.1) tb p
          · exact ⟨4, by rw [if_pos c]; exact Or.inr ⟨c1, Or.inr ⟨c2, rfl⟩⟩⟩
          · exact ⟨2, by rw [if_pos c]; exact Or.inr ⟨c1, Or.inl ⟨c2, rfl⟩⟩⟩
        · exact ⟨1, by rw [if_pos c]; exact Or.inl ⟨c1, rfl⟩⟩
      · exact ⟨0, by rw [if_neg c]⟩
    obtain ⟨r, hr⟩ := ex
    refine nc_SIM_ob wf r (fun mi h hl => ?_) (fun mi h => ?_)
    · obtain ⟨m1, e1, cx, -, F1⟩ := C_recall (C_v h) hl ws
      obtain ⟨m2, e2, -, F2⟩ := C_soon cx ws (s_w0_ok ws) ht
      have c2 : nc_CX A.1 pl ps (s_lw A.1) (-9) (s_w0 A.1) X m2 := nc_CX_fr w5 cx (fun a k h => F2 a k (by omega))
      have r1 : m2 (X + 1 + 11 + t) 2 = nI ta := ((vC_T (by omega) (by omega)).trans (by rw [c2.1])).trans eta
      have r2 : m2 (X + 1 + 11 + t) 3 = nI tb := ((vC_T (by omega) (by omega)).trans (by rw [c2.1])).trans etb
      have ba := C_by (t := t) (q := ta) c2 ws (s_w0_ok ws) ht (by omega)
      have bb := C_by (t := t) (q := tb) c2 ws (s_w0_ok ws) ht (by omega)
      refine ⟨m2, ?_, fun a k ha => (F2 a k (by omega)).trans (F1 a k (by omega))⟩
      show f_X7_why mi X _ = _
      unfold f_X7_why
      rw [C_isT ((C_th h).trans w6) w7 ht, if_neg (by decide), e1]
      simp only [nc_some_bind]
      rw [e2]
      simp only [nc_some_bind]
      by_cases c : s_soon A.1 pl ps (s_lw A.1) t (-9) (s_w0 A.1) = -9
      · rw [if_pos c] at hr
        rw [if_pos c, nc_at_nI (by omega) (by omega), r1, r2]
        rcases hr with ⟨k1, rfl⟩ | ⟨k1, ⟨k2, rfl⟩ | ⟨k2, rfl⟩⟩
        · rw [ba.2 k1]
          rfl
        · rw [ba.1 k1, bb.2 k2]
          rfl
        · rw [ba.1 k1, bb.1 k2]
          rfl
      · rw [if_neg c] at hr
        rw [if_neg c, hr]
    · obtain ⟨m1, e1, mx, -, F1⟩ := M_ways h ws
      obtain ⟨m2, -, e2, -, F2⟩ := M_soon (al := -9) mx ws (s_w0_ok ws) w8 ht
      have c2 : nc_MY A.1 pl ps (s_w0 A.1) M m2 := nc_MY_fr w5 mx (fun a k h => F2 a k (by omega))
      have r1 : m2 (M + 19 + 1 + t) 2 = nI ta := ((vM_T (by omega) (by omega)).trans (by rw [c2.1])).trans eta
      have r2 : m2 (M + 19 + 1 + t) 3 = nI tb := ((vM_T (by omega) (by omega)).trans (by rw [c2.1])).trans etb
      have ba := M_by (t := t) (q := ta) c2 ws (s_w0_ok ws) ht (by omega)
      have bb := M_by (t := t) (q := tb) c2 ws (s_w0_ok ws) ht (by omega)
      refine ⟨m2, ?_, fun a k ha => (F2 a k (by omega)).trans (F1 a k (by omega))⟩
      show f_X8_why mi M _ = _
      unfold f_X8_why
      rw [M_isT ((M_th h).trans w6) w7 ht, e1]
      simp only [nc_some_bind]
      rw [if_neg (by decide), nc_MY_lw mx, e2]
      simp only [nc_some_bind]
      by_cases c : s_soon A.1 pl ps (s_lw A.1) t (-9) (s_w0 A.1) = -9
      · rw [if_pos c] at hr
        rw [if_pos c, nc_at_nI (by omega) (by omega), r1, r2]
        rcases hr with ⟨k1, rfl⟩ | ⟨k1, ⟨k2, rfl⟩ | ⟨k2, rfl⟩⟩
        · rw [ba.2 k1]
          rfl
        · rw [ba.1 k1, bb.2 k2]
          rfl
        · rw [ba.1 k1, bb.1 k2]
          rfl
      · rw [if_neg c] at hr
        rw [if_neg c, hr]
def s_bar (S : nc_S) (pl ps t : Nat) (p : Nat) (x : Int32) : Int32 := if s_soon S pl ps (s_lw S) t (nI p) (s_w0 S) = -9 then x else x ||| ((1 : Int32) <<< (nI p &&& 31))
theorem sim_bars (wf : nc_WF n A) (a : Int32) : nc_SIM n A (nc_lst A.1 (X + 1)) X M (fun mi => f_X7_bars mi X a) (fun mi => f_X8_bars mi M a) := by
  refine sim_t (g1 := fun mi a => f_X7_bars mi X a) (g2 := fun mi a => f_X8_bars mi M a) wf a (fun mi th e hs ha => ?_) (fun mi th e hs ha => ?_) (fun pl ps th t ws ht ea => ?_)
  · show f_X7_bars mi X a = _
    unfold f_X7_bars
    rw [C_isTn e ha, if_pos rfl]
    rfl
  · show f_X8_bars mi M a = _
    unfold f_X8_bars
    rw [M_isTn e hs ha]
    rfl
  · subst ea
    obtain ⟨w1, w2, w3, w4, w5, w6, w7, w8, w9, w10, w11⟩ := id ws
    refine nc_SIM_ob wf (if s_soon A.1 pl ps (s_lw A.1) t (-9) (s_w0 A.1) = -9 then nc_fo (s_bar A.1 pl ps t) ps 0 0 else 0) (fun mi h hl => ?_) (fun mi h => ?_)
    · obtain ⟨m1, e1, cx, -, F1⟩ := C_recall (C_v h) hl ws
      obtain ⟨m2, e2, -, F2⟩ := C_soon cx ws (s_w0_ok ws) ht
      have c2 : nc_CX A.1 pl ps (s_lw A.1) (-9) (s_w0 A.1) X m2 := nc_CX_fr w5 cx (fun a k h => F2 a k (by omega))
      have lp : ∃ y m', ((y = nc_fo (s_bar A.1 pl ps t) ps 0 0) ∧ (∃ al, nc_CX A.1 pl ps (s_lw A.1) al (s_w0 A.1) X m') ∧ ∀ a k, ¬ (X + 55 ≤ a ∧ a < X + 80) → m' a k = m2 a k) ∧ nc_loop (fun _ _ _ => none) (B_X2_barredBits_16 X (nI t) (fun x4 mi5 => some (nc_up mi5 (X + 55) 6 (-9), x4))) 200 0 0 m2 = some (nc_up m' (X + 55) 6 (-9), y) :=
        nc_forI1 (z := fun _ _ _ => none) (B := B_X2_barredBits_16 X (nI t) (fun x4 mi5 => some (nc_up mi5 (X + 55) 6 (-9), x4))) (s := 0) (n := 200) (y := (0 : Int32)) (x := m2) (fun p y m => y = nc_fo (s_bar A.1 pl ps t) p 0 0 ∧ (∃ al, nc_CX A.1 pl ps (s_lw A.1) al (s_w0 A.1) X m) ∧ ∀ a k, ¬ (X + 55 ≤ a ∧ a < X + 80) → m a k = m2 a k) ps (fun y m => some (nc_up m (X + 55) 6 (-9), y)) (fun rc p y m _ hp ⟨i1, ⟨al, i2⟩, i3⟩ => by
          have c3 : nc_CX A.1 pl ps (s_lw A.1) (nI p) (s_w0 A.1) X (nc_up m (X + 55) 6 (nI p)) := by
            obtain ⟨a1, a2, a3, a4⟩ := i2
            refine ⟨?_, (nc_up_ne (by omega)).trans a2, nc_up_same, fun p hp => ⟨(nc_up_na (by omega)).trans (a4 p hp).1, fun i hi => ⟨(nc_up_na (by omega)).trans ((a4 p hp).2 i hi).1, (nc_up_na (by omega)).trans ((a4 p hp).2 i hi).2⟩⟩⟩
            rw [← a1]
            exact vC_fr (fun a k h1 h2 h3 => nc_up_na (by omega))
          obtain ⟨m3, e3, -, F3⟩ := C_soon c3 ws (s_w0_ok ws) ht
          refine ⟨s_bar A.1 pl ps t p y, m3, ⟨by rw [nc_fo_succ, Nat.zero_add, i1], ⟨_, nc_CX_fr w5 c3 (fun a k h => F3 a k (by omega))⟩, fun a k ha => by rw [F3 a k (by omega), nc_up_na (by omega), i3 a k ha]⟩, ?_⟩
          unfold B_X2_barredBits_16 s_bar
          simp only [nc_let_eq]
          rw [show m (X + 1) 5 = nI ps from (congrArg s_ps i2.1).trans w4, if_neg (nI_ge hp (by omega)), e3]
          simp only [nc_some_bind]
          rw [nI_1]
          split <;> rfl) (fun rc y m ⟨i1, ⟨al, i2⟩, i3⟩ => by
          unfold B_X2_barredBits_16
          rw [show m (X + 1) 5 = nI ps from (congrArg s_ps i2.1).trans w4, if_pos (nI_le (Nat.le_refl _) (by omega))]) (Nat.zero_le _) (by omega) ⟨rfl, ⟨_, c2⟩, fun _ _ _ => rfl⟩
      obtain ⟨y, m3, ⟨i1, -, i3⟩, e3⟩ := lp
      by_cases c : s_soon A.1 pl ps (s_lw A.1) t (-9) (s_w0 A.1) = -9
      · refine ⟨nc_up m3 (X + 55) 6 (-9), ?_, fun a k ha => by rw [nc_up_na (by omega), i3 a k ha, F2 a k (by omega), F1 a k (by omega)]⟩
        show f_X7_bars mi X _ = _
        unfold f_X7_bars f_X2_barredBits
        rw [C_isT ((C_th h).trans w6) w7 ht, if_neg (by decide), e1]
        simp only [nc_some_bind, nc_let_eq]
        rw [e2]
        simp only [nc_some_bind]
        rw [if_pos c, if_pos c, ← i1, e3]
        rfl
      · refine ⟨m2, ?_, fun a k ha => (F2 a k (by omega)).trans (F1 a k (by omega))⟩
        show f_X7_bars mi X _ = _
        unfold f_X7_bars f_X2_barredBits
        rw [C_isT ((C_th h).trans w6) w7 ht, if_neg (by decide), e1]
        simp only [nc_some_bind, nc_let_eq]
        rw [e2]
        simp only [nc_some_bind]
        rw [if_neg c, if_neg c]
        rfl
    · obtain ⟨m1, e1, mx, -, F1⟩ := M_ways h ws
      obtain ⟨m2, -, e2, -, F2⟩ := M_soon (al := -9) mx ws (s_w0_ok ws) w8 ht
      have c2 : nc_MY A.1 pl ps (s_w0 A.1) M m2 := nc_MY_fr w5 mx (fun a k h => F2 a k (by omega))
      by_cases c : s_soon A.1 pl ps (s_lw A.1) t (-9) (s_w0 A.1) = -9
      · have lp : ∃ y m', ((y = nc_fo (s_bar A.1 pl ps t) ps 0 0) ∧ ∀ a k, ¬ (a = M + 50 ∧ k < 7) → m' a k = m2 a k) ∧ nc_loop (fun _ _ _ => none) (B_X8_bars_38 M (nI t)) 200 0 0 m2 = some (m', y) :=
          nc_forI1 (z := fun _ _ _ => none) (B := B_X8_bars_38 M (nI t)) (s := 0) (n := 200) (y := (0 : Int32)) (x := m2) (fun p y m => y = nc_fo (s_bar A.1 pl ps t) p 0 0 ∧ ∀ a k, ¬ (a = M + 50 ∧ k < 7) → m a k = m2 a k) ps (fun y m => some (m, y)) (fun rc p y m _ hp ⟨i1, i3⟩ => by
            have c3 : nc_MY A.1 pl ps (s_w0 A.1) M m := nc_MY_fr w5 c2 (fun a k h => i3 a k (by omega))
            have hfree : f_X8_isFree m M (nI p) (nI t) = some (if s_P A.1 p 4 < s_T A.1 t 4 then 0 else 1) := by
              unfold f_X8_isFree
              rw [nc_at_nI (by omega) (by omega), nc_at_nI (by omega) (by omega), show m (M + 12 + 1 + p) 4 = s_P A.1 p 4 from (vM_P (by omega) (by omega)).trans (by rw [c3.1]), show m (M + 19 + 1 + t) 4 = s_T A.1 t 4 from (vM_T (by omega) (by omega)).trans (by rw [c3.1])]
              split <;> rfl
            by_cases cf : s_P A.1 p 4 < s_T A.1 t 4
            · have e0 : s_bar A.1 pl ps t p y = y := by
                unfold s_bar
                rw [s_soon_nofit w5 hp cf, if_pos c]
              refine ⟨y, m, ⟨by rw [nc_fo_succ, Nat.zero_add, ← i1, e0], i3⟩, ?_⟩
              unfold B_X8_bars_38
              simp only [nc_let_eq]
              rw [show m M 7 = nI ps from (congrArg s_ps c3.1).trans w4, if_neg (nI_ge hp (by omega)), hfree, if_pos cf]
              simp only [nc_some_bind]
              rw [if_pos trivial, nI_1, show y ||| 0 = y from Int32.or_zero]
            · obtain ⟨m3, -, e3, -, F3⟩ := M_soon (al := nI p) c3 ws (s_w0_ok ws) w8 ht
              refine ⟨s_bar A.1 pl ps t p y, m3, ⟨by rw [nc_fo_succ, Nat.zero_add, i1], fun a k ha => (F3 a k ha).trans (i3 a k ha)⟩, ?_⟩
              unfold B_X8_bars_38 s_bar
              simp only [nc_let_eq]
              rw [show m M 7 = nI ps from (congrArg s_ps c3.1).trans w4, if_neg (nI_ge hp (by omega)), hfree, if_neg cf]
              simp only [nc_some_bind]
              rw [if_neg (by decide), nc_MY_lw c3, e3]
              simp only [nc_some_bind]
              rw [nI_1, show y ||| 0 = y from Int32.or_zero]
              split <;> rfl) (fun rc y m ⟨i1, i3⟩ => by
            have c3 : nc_MY A.1 pl ps (s_w0 A.1) M m := nc_MY_fr w5 c2 (fun a k h => i3 a k (by omega))
            unfold B_X8_bars_38
            rw [show m M 7 = nI ps from (congrArg s_ps c3.1).trans w4, if_pos (nI_le (Nat.le_refl _) (by omega))]) (Nat.zero_le _) (by omega) ⟨rfl, fun _ _ _ => rfl⟩
        obtain ⟨y, m3, ⟨i1, i3⟩, e3⟩ := lp
        refine ⟨m3, ?_, fun a k ha => by rw [i3 a k (by omega), F2 a k (by omega), F1 a k (by omega)]⟩
        show f_X8_bars mi M _ = _
        unfold f_X8_bars
        rw [M_isT ((M_th h).trans w6) w7 ht, e1]
        simp only [nc_some_bind]
        rw [if_neg (by decide), nc_MY_lw mx, e2]
        simp only [nc_some_bind]
        rw [if_pos c, if_pos c, ← i1]
        exact e3
      · refine ⟨m2, ?_, fun a k ha => (F2 a k (by omega)).trans (F1 a k (by omega))⟩
        show f_X8_bars mi M _ = _
        unfold f_X8_bars
        rw [M_isT ((M_th h).trans w6) w7 ht, e1]
        simp only [nc_some_bind]
        rw [if_neg (by decide), nc_MY_lw mx, e2]
        simp only [nc_some_bind]
        rw [if_neg c, if_neg c]
end ASK4
