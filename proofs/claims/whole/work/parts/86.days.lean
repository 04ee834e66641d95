-- drawn days: the class
def s_lcg (x : Int32) : Int32 := x * 1664525 + 1013904223
def s_sdn (x : Int32) : Nat → Int32
  | 0 => x
  | k + 1 => s_lcg (s_sdn x k)
def s_wd (S : nc_S) (x : Int32) : nc_Wy := fun p => (s_cl (s_P S p 0), s_cl (s_P S p 1), s_cl (s_drw (s_sdn x (p + 1))))
theorem s_wd_e {S : nc_S} {n pl ps th : Nat} (ws : s_wf S n pl ps th) (x : Int32) {p : Nat} (hp : p < ps) : ∃ a g f, a < pl ∧ g < pl ∧ f < 721 ∧ s_P S p 0 = nI a ∧ s_P S p 1 = nI g ∧ s_drw (s_sdn x (p + 1)) = nI f ∧ s_wd S x p = (a, g, f) := by
  obtain ⟨⟨a, ha, ea⟩, ⟨g, hg, eg⟩, -⟩ := ws.2.2.2.2.2.2.2.2.2.1 p hp
  have h3 := ws.2.2.1
  obtain ⟨f, hf, ef⟩ := s_drw_ok (s_sdn x (p + 1))
  refine ⟨a, g, f, ha, hg, hf, ea, eg, ef, ?_⟩
  unfold s_wd
  rw [ea, eg, ef, s_cl_nI (by omega), s_cl_nI (by omega), s_cl_nI (by omega)]
theorem s_wd_ok {S : nc_S} {n pl ps th : Nat} (ws : s_wf S n pl ps th) (x : Int32) : s_wok pl ps (s_wd S x) := by
  intro p hp
  obtain ⟨a, g, f, ha, hg, hf, -, -, -, e⟩ := s_wd_e ws x hp
  rw [e]
  exact ⟨ha, hg, hf⟩
def s_dg (S : nc_S) (pl ps : Nat) (x : Int32) (t : Nat) (y : Int32) : Int32 := if s_int S pl ps (s_lw S) (s_wd S x) t = 0 then y else y + 1
def s_dd (S : nc_S) (pl ps th : Nat) (σ : Int32 × Int32) : Int32 × Int32 := (nc_fo (s_dg S pl ps σ.2) th 0 σ.1, s_sdn σ.2 ps)
section DAYC
variable {S : nc_S} {n pl ps th : Nat} {X : Nat}
theorem C_day {m0 : nc_Mem} {x y : Int32} {day : Nat} {rc5 : Int32 → Int32 → nc_Mem → Option (nc_Mem × Int32)} (hv : vC m0 (X + 1) = S) (hl : nc_lst S (X + 1) m0) (h5r : m0 (X + 55) 5 = s_lw S) (h6r : m0 (X + 55) 6 = -9) (hx : m0 (X + 55) 7 = x) (ws : s_wf S n pl ps th) : ∃ m', nc_loop (fun _ _ => none) (B_X2_inTimeOnDays_19 X y (nI day) rc5) 200 0 m0 = rc5 (nc_fo (s_dg S pl ps x) th 0 y) (nI (day + 1)) m' ∧ m' (X + 55) 5 = s_lw S ∧ m' (X + 55) 6 = -9 ∧ m' (X + 55) 7 = s_sdn x ps ∧ ∀ a k, ¬ (X + 55 ≤ a ∧ a < X + 77) → m' a k = m0 a k := by
  have h5 := ws.2.2.2.2.1
  have h3 := ws.2.2.1
  have h7 := ws.2.2.2.2.2.2.1
  have vv : ∀ m1 : nc_Mem, (∀ a k, ¬ (X + 55 ≤ a ∧ a < X + 77) → m1 a k = m0 a k) → vC m1 (X + 1) = S := fun m1 hF => by
    rw [← hv]
    exact vC_fr (fun a k a1 a2 a3 => hF a k (by omega))
  have things : ∀ m1 : nc_Mem, nc_CX S pl ps (s_lw S) (-9) (s_wd S x) X m1 → ∃ m', nc_loop (fun _ _ _ => none) (B_X2_inTimeOnDays_84 X (nI day) rc5) 200 y 0 m1 = rc5 (nc_fo (s_dg S pl ps x) th 0 y) (nI (day + 1)) m' ∧ ∀ a k, ¬ (a = X + 57 ∧ k < 7) → m' a k = m1 a k := by
    intro m1 c1
    obtain ⟨y', m', ⟨i1, i2⟩, e⟩ := nc_forI1 (z := fun _ _ _ => none) (B := B_X2_inTimeOnDays_84 X (nI day) rc5) (s := 0) (n := 200) (y := y) (x := m1) (fun t y' m' => y' = nc_fo (s_dg S pl ps x) t 0 y ∧ ∀ a k, ¬ (a = X + 57 ∧ k < 7) → m' a k = m1 a k) th (fun y' m' => rc5 y' (nI (day + 1)) m') (fun rc t y' m' _ ht ⟨i1, i2⟩ => by
        have c2 : nc_CX S pl ps (s_lw S) (-9) (s_wd S x) X m' := nc_CX_fr h5 c1 (fun a k h => i2 a k (by omega))
        obtain ⟨m2, e2, -, F2⟩ := C_int c2 ws (s_wd_ok ws x) ht
        refine ⟨s_dg S pl ps x t y', m2, ⟨by rw [nc_fo_succ, Nat.zero_add, i1], fun a k ha => (F2 a k ha).trans (i2 a k ha)⟩, ?_⟩
        unfold B_X2_inTimeOnDays_84 s_dg
        simp only [nc_let_eq]
        rw [nc_CX_th c2 ws, if_neg (nI_ge ht (by omega)), e2]
        simp only [nc_some_bind]
        rw [nI_1, show y' + 0 = y' from Int32.add_zero y']
        split <;> rfl) (fun rc y' m' ⟨i1, i2⟩ => by
        have c2 : nc_CX S pl ps (s_lw S) (-9) (s_wd S x) X m' := nc_CX_fr h5 c1 (fun a k h => i2 a k (by omega))
        unfold B_X2_inTimeOnDays_84
        simp only [nc_let_eq]
        rw [nc_CX_th c2 ws, if_pos (nI_le (Nat.le_refl _) (by omega)), nI_1]) (Nat.zero_le _) (by omega) ⟨rfl, fun _ _ _ => rfl⟩
    exact ⟨m', by rw [← i1]; exact e, i2⟩
  obtain ⟨m1, ⟨i1, i2, i3, i4, i5⟩, e1⟩ := nc_forI (z := fun _ _ => none) (B := B_X2_inTimeOnDays_19 X y (nI day) rc5) (s := 0) (n := 200) (x := m0) (fun q m1 => (∀ p, p < q → nc_wC m1 (X + 59 + 3 * p) (s_len S pl (s_wd S x p).2.1 (s_wd S x p).1 (s_wd S x p).2.2) (s_st S pl (s_wd S x p).2.1 (s_wd S x p).1 (s_wd S x p).2.2)) ∧ m1 (X + 55) 5 = s_lw S ∧ m1 (X + 55) 6 = -9 ∧ m1 (X + 55) 7 = s_sdn x q ∧ ∀ a k, ¬ (X + 55 ≤ a ∧ a < X + 77) → m1 a k = m0 a k) ps (fun m1 => nc_loop (fun _ _ _ => none) (B_X2_inTimeOnDays_84 X (nI day) rc5) 200 y 0 m1) (fun rc p m1 _ hp ⟨j1, j2, j3, j4, j5⟩ => by
      obtain ⟨a, g, f, ha, hg, hf, ea, eg, ef, e9⟩ := s_wd_e ws x hp
      have hv1 := vv m1 j5
      have hv2 : vC (nc_up m1 (X + 55) 7 (s_sdn x (p + 1))) (X + 1) = S := by
        rw [← hv1]
        exact vC_fr (fun a k a1 a2 a3 => nc_up_na (by omega))
      have hl2 : nc_lst S (X + 1) (nc_up m1 (X + 55) 7 (s_sdn x (p + 1))) := fun a c ha hc => (nc_up_na (by omega)).trans ((j5 _ _ (by omega)).trans (hl a c ha hc))
      obtain ⟨m2, e2, w2, F2⟩ := C_lead (o := X + 59 + 3 * p) (a := a) (g := g) (f := f) (nc_tw_of hv2 hl2 ws) (s_wf_ww ws) h3 ha hg (by omega)
      have rP : ∀ k, k < 7 → m1 (X + 1 + 5 + p) k = s_P S p k := fun k hk => (vC_P (by omega) hk).trans (by rw [hv1])
      have ed : f_X2_drawFrom m1 X = (nc_up m1 (X + 55) 7 (s_sdn x (p + 1)), nI f) := by
        unfold f_X2_drawFrom
        simp only [nc_let_eq]
        rw [j4, nc_up_same]
        rw [← ef]
        rfl
      refine ⟨m2, ⟨fun q hq => ?_, ?_, ?_, ?_, fun a k ha => ?_⟩, ?_⟩
      · by_cases c : q = p
        · subst c
          rw [e9]
          exact w2
        · obtain ⟨k1, k2⟩ := j1 q (by omega)
          refine ⟨(F2 _ _ (by omega)).trans ((nc_up_na (by omega)).trans k1), fun i hi => ?_⟩
          rw [F2 _ _ (by omega), F2 _ _ (by omega), nc_up_na (by omega), nc_up_na (by omega)]
          exact k2 i hi
      · rw [F2 _ _ (by omega), nc_up_ne (by omega)]
        exact j2
      · rw [F2 _ _ (by omega), nc_up_ne (by omega)]
        exact j3
      · rw [F2 _ _ (by omega), nc_up_same]
      · rw [F2 _ _ (by omega), nc_up_na (by omega)]
        exact j5 a k ha
      · unfold B_X2_inTimeOnDays_19
        simp only [nc_let_eq]
        rw [show m1 (X + 1) 5 = nI ps from (congrArg s_ps hv1).trans ws.2.2.2.1, if_neg (nI_ge hp (by omega)), nc_at_nI (by omega) (by omega), ed, rP 0 (by omega), rP 1 (by omega), ea, eg, e2]
        simp only [nc_some_bind]
        rw [nI_1]) (fun rc m1 ⟨j1, j2, j3, j4, j5⟩ => by
      unfold B_X2_inTimeOnDays_19
      rw [show m1 (X + 1) 5 = nI ps from (congrArg s_ps (vv m1 j5)).trans ws.2.2.2.1, if_pos (nI_le (Nat.le_refl _) (by omega))]) (Nat.zero_le _) (by omega) ⟨fun p hp => absurd hp (Nat.not_lt_zero _), h5r, h6r, hx, fun _ _ _ => rfl⟩
  obtain ⟨m2, e2, F2⟩ := things m1 ⟨vv m1 i5, i2, i3, i1⟩
  exact ⟨m2, e1.trans e2, (F2 _ _ (by omega)).trans i2, (F2 _ _ (by omega)).trans i3, (F2 _ _ (by omega)).trans i4, fun a k ha => (F2 a k (by omega)).trans (i5 a k ha)⟩
end DAYC
