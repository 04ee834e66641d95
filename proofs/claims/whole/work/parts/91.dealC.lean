-- EACH: what each is worth, and the class's weighing
def s_mi (S : nc_S) (p t : Nat) : Int := (s_Dp S (s_P S p 0) (s_T S t 2) : Int) + (s_Dp S (s_T S t 2) (s_T S t 3) : Int) + (s_Dp S (s_T S t 3) (s_P S p 1) : Int) - (s_Dp S (s_P S p 0) (s_P S p 1) : Int)
theorem s_more_i (S : nc_S) (p t : Nat) : s_more S p t = iI (s_mi S p t) := by
  unfold s_more s_mi
  rw [iI_nat, iI_nat, iI_nat, iI_nat, iI_add, iI_add, iI_sub]
def s_gn (S : nc_S) (p t : Nat) : Int := (s_cl (s_T S t 6) : Int) - s_mi S p t
def s_De (S : nc_S) (th : Nat) (a4 : Int32) : nc_De := (th, (fun p t => decide (¬ nI p = a4 ∧ ¬ s_rnd S p t = -9)), s_gn S)
theorem s_De_1 (S : nc_S) (th : Nat) (a4 : Int32) : (s_De S th a4).1 = th := rfl
theorem s_De_o (S : nc_S) (th : Nat) (a4 : Int32) (p t : Nat) : (s_De S th a4).2.1 p t = decide (¬ nI p = a4 ∧ ¬ s_rnd S p t = -9) := rfl
theorem s_De_g (S : nc_S) (th : Nat) (a4 : Int32) (p t : Nat) : (s_De S th a4).2.2 p t = s_gn S p t := rfl
theorem s_Dp_b {S : nc_S} {pl a c : Nat} (hw : nc_ww S pl) (h7 : pl ≤ 7) (ha : a < pl) (hc : c < pl) (h : s_D S a c < 1000000) : s_D S a c ≤ 7680 := by
  rcases s_DF hw h7 ha hc with ⟨-, h⟩ | ⟨h, -⟩
  · exact h
  · omega
theorem s_D_tri (S : nc_S) (a b c : Nat) (hb : b < 7) : s_D S a c ≤ s_D S a b + s_D S b c := fw_tri (s_wn S) 1000000 7 b a c hb
theorem s_rnd_D {S : nc_S} {p t : Nat} (h : ¬ s_rnd S p t = -9) : s_Dp S (s_P S p 0) (s_T S t 2) < 1000000 ∧ s_Dp S (s_T S t 2) (s_T S t 3) < 1000000 ∧ s_Dp S (s_T S t 3) (s_P S p 1) < 1000000 := by
  unfold s_rnd at h
  split at h
  · rename_i c
    exact ⟨c.1, c.2.1, c.2.2.1⟩
  · exact absurd rfl h
theorem s_De_bd {S : nc_S} {n pl ps th : Nat} (ws : s_wf S n pl ps th) (a4 : Int32) : e_bd (s_De S th a4) ps := by
  intro p t hp ht hc
  rw [s_De_1] at ht
  rw [s_De_o] at hc
  rw [s_De_g]
  have hr := (of_decide_eq_true hc).2
  obtain ⟨d1, d2, d3⟩ := s_rnd_D hr
  have h3 := ws.2.2.1
  obtain ⟨⟨a, ha, ea⟩, ⟨g, hg, eg⟩, -⟩ := ws.2.2.2.2.2.2.2.2.2.1 p hp
  obtain ⟨-, -, ⟨x, hx, ex⟩, ⟨y, hy, ey⟩, -, -, ⟨w, hw, ew⟩, -⟩ := ws.2.2.2.2.2.2.2.2.2.2 t ht
  unfold s_gn s_mi
  unfold s_Dp at d1 d2 d3 ⊢
  rw [ea, ex, s_cl_nI (show a < 2 ^ 31 by omega), s_cl_nI (show x < 2 ^ 31 by omega)] at d1
  rw [ex, ey, s_cl_nI (show x < 2 ^ 31 by omega), s_cl_nI (show y < 2 ^ 31 by omega)] at d2
  rw [ey, eg, s_cl_nI (show y < 2 ^ 31 by omega), s_cl_nI (show g < 2 ^ 31 by omega)] at d3
  rw [ea, eg, ex, ey, ew, s_cl_nI (show a < 2 ^ 31 by omega), s_cl_nI (show g < 2 ^ 31 by omega), s_cl_nI (show x < 2 ^ 31 by omega), s_cl_nI (show y < 2 ^ 31 by omega), s_cl_nI (show w < 2 ^ 31 by omega)]
  have b1 := s_Dp_b (s_wf_ww ws) h3 ha hx d1
  have b2 := s_Dp_b (s_wf_ww ws) h3 hx hy d2
  have b3 := s_Dp_b (s_wf_ww ws) h3 hy hg d3
  have t1 := s_D_tri S a x g (by omega)
  have t2 := s_D_tri S x y g (by omega)
  omega
theorem nc_r6 : ∀ a c : Fin 6, nI a.1 * 6 + nI c.1 = nI (6 * a.1 + c.1) := by decide
theorem nc_r64 : ∀ a : Fin 7, ∀ c : Fin 64, nI a.1 * 64 + nI c.1 = nI (64 * a.1 + c.1) := by decide +kernel
theorem nc_row6 {a c : Nat} (ha : a < 6) (hc : c < 6) : nI a * 6 + nI c = nI (6 * a + c) := nc_r6 ⟨a, ha⟩ ⟨c, hc⟩
theorem nc_row64 {a c : Nat} (ha : a < 7) (hc : c < 64) : nI a * 64 + nI c = nI (64 * a + c) := nc_r64 ⟨a, ha⟩ ⟨c, hc⟩
def e_g (D : nc_De) (p t : Nat) : Int := if D.2.1 p t = true then D.2.2 p t else -1000000
def nc_gC (D : nc_De) (ps th X : Nat) (m : nc_Mem) : Prop := ∀ p t, p < ps → t < th → m (X + 77 + 1) (6 * p + t) = iI (e_g D p t)
section WEIGH
variable {n : Nat} {A : nc_A} {X pl ps th : Nat} {m : nc_Mem}
theorem C_weigh (h : aC m X = A) (hl : nc_lst A.1 (X + 1) m) (ws : s_wf A.1 n pl ps th) (a4 : Int32) : ∃ m', f_X0_weigh m (X + 77) (X + 1) a4 = some m' ∧ nc_gC (s_De A.1 th a4) ps th X m' ∧ ∀ a k, ¬ a = X + 77 + 1 → m' a k = m a k := by
  obtain ⟨w1, w2, w3, w4, w5, w6, w7, w8, w9, w10, w11⟩ := id ws
  obtain ⟨m0, e0, f0, F0⟩ := C_fill (m := m) (r0 := X + 77 + 1) (N := 36) (v := -1000000) (by omega)
  have g0 : ∀ a k, ¬ a = X + 77 + 1 → m0 a k = m a k := fun a k ha => F0 a k (by omega)
  have hA : ∀ m1 : nc_Mem, (∀ a k, ¬ a = X + 77 + 1 → m1 a k = m a k) → aC m1 X = A ∧ nc_lst A.1 (X + 1) m1 := fun m1 hF => by
    refine ⟨?_, fun a c ha hc => (hF _ _ (by omega)).trans (hl a c ha hc)⟩
    rw [← h]
    exact aC_fr (fun a k h1 h2 h3 h4 h5 => hF a k (by omega))
  obtain ⟨m2, ⟨i1, i2⟩, e2⟩ := nc_forI (z := fun _ _ => none) (B := B_X0_weigh_11 (X + 77) (X + 1) a4) (s := 0) (n := 200) (x := m0) (fun p m1 => (∀ p' t', p' < ps → t' < th → m1 (X + 77 + 1) (6 * p' + t') = iI (if p' < p then e_g (s_De A.1 th a4) p' t' else -1000000)) ∧ ∀ a k, ¬ a = X + 77 + 1 → m1 a k = m a k) ps some (fun rc p m1 _ hp ⟨i1, i2⟩ => by
      obtain ⟨m3, ⟨j1, j2⟩, e3⟩ := nc_forI (z := fun _ _ => none) (B := B_X0_weigh_22 (X + 77) (X + 1) a4 (nI p) rc) (s := 0) (n := 200) (x := m1) (fun t m3 => (∀ p' t', p' < ps → t' < th → m3 (X + 77 + 1) (6 * p' + t') = iI (if p' < p ∨ (p' = p ∧ t' < t) then e_g (s_De A.1 th a4) p' t' else -1000000)) ∧ ∀ a k, ¬ a = X + 77 + 1 → m3 a k = m a k) th (fun m3 => rc (nI (p + 1)) m3) (fun rc' t m3 _ ht ⟨j1, j2⟩ => by
          obtain ⟨h3, hl3⟩ := hA m3 j2
          have skip : (s_De A.1 th a4).2.1 p t = false → (∀ p' t', p' < ps → t' < th → m3 (X + 77 + 1) (6 * p' + t') = iI (if p' < p ∨ (p' = p ∧ t' < t + 1) then e_g (s_De A.1 th a4) p' t' else -1000000)) := fun hc p' t' hp' ht' => by
            rw [j1 p' t' hp' ht']
            by_cases c : p' = p ∧ t' = t
            · rw [if_neg (by omega), if_pos (by omega), c.1, c.2]
              unfold e_g
              rw [hc]
              rfl
            · by_cases c2 : p' < p ∨ (p' = p ∧ t' < t)
              · rw [if_pos c2, if_pos (by omega)]
              · rw [if_neg c2, if_neg (by omega)]
          by_cases c1 : nI p = a4
          · refine ⟨m3, ⟨skip (by rw [s_De_o]; exact decide_eq_false (fun z => z.1 c1)), j2⟩, ?_⟩
            unfold B_X0_weigh_22
            simp only [nc_let_eq]
            rw [(C_th h3).trans w6, if_neg (nI_ge ht (by omega)), if_pos c1, nI_1]
          · by_cases c2 : s_rnd A.1 p t = -9
            · refine ⟨m3, ⟨skip (by rw [s_De_o]; exact decide_eq_false (fun z => z.2 c2)), j2⟩, ?_⟩
              unfold B_X0_weigh_22
              simp only [nc_let_eq]
              rw [(C_th h3).trans w6, if_neg (nI_ge ht (by omega)), if_neg c1, C_round h3 hl3 ws hp ht]
              simp only [nc_some_bind]
              rw [if_pos c2, nI_1]
            · refine ⟨nc_up m3 (X + 77 + 1) (6 * p + t) (iI (s_gn A.1 p t)), ⟨fun p' t' hp' ht' => ?_, fun a k ha => (nc_up_na ha).trans (j2 a k ha)⟩, ?_⟩
              · by_cases c : p' = p ∧ t' = t
                · rw [if_pos (by omega), c.1, c.2, nc_up_same]
                  unfold e_g
                  rw [if_pos (by rw [s_De_o]; exact decide_eq_true ⟨c1, c2⟩), s_De_g]
                · rw [nc_up_ne (by omega), j1 p' t' hp' ht']
                  by_cases c2 : p' < p ∨ (p' = p ∧ t' < t)
                  · rw [if_pos c2, if_pos (by omega)]
                  · rw [if_neg c2, if_neg (by omega)]
              · obtain ⟨-, -, -, -, -, -, ⟨w, hw, ew⟩, -⟩ := w11 t ht
                have e4 : s_T A.1 t 6 - s_more A.1 p t = iI (s_gn A.1 p t) := by
                  unfold s_gn
                  rw [s_more_i, ew, s_cl_nI (by omega), iI_nat, iI_sub]
                unfold B_X0_weigh_22
                simp only [nc_let_eq]
                rw [(C_th h3).trans w6, if_neg (nI_ge ht (by omega)), if_neg c1, C_round h3 hl3 ws hp ht]
                simp only [nc_some_bind]
                rw [if_neg c2, nc_at_nI (by omega) (by omega), C_more h3 hl3 ws hp ht]
                simp only [nc_some_bind]
                rw [nc_row6 (by omega) (by omega), nc_at_nI (by omega) (by omega), C_rT h3 (by omega) (by omega), e4, nI_1]) (fun rc' m3 ⟨j1, j2⟩ => by
          obtain ⟨h3, hl3⟩ := hA m3 j2
          unfold B_X0_weigh_22
          simp only [nc_let_eq]
          rw [(C_th h3).trans w6, if_pos (nI_le (Nat.le_refl _) (by omega)), nI_1]) (Nat.zero_le _) (by omega) ⟨fun p' t' hp' ht' => by
            rw [i1 p' t' hp' ht']
            by_cases c : p' < p
            · rw [if_pos c, if_pos (Or.inl c)]
            · rw [if_neg c, if_neg (by omega)], i2⟩
      refine ⟨m3, ⟨fun p' t' hp' ht' => ?_, j2⟩, ?_⟩
      · rw [j1 p' t' hp' ht']
        by_cases c : p' < p + 1
        · rw [if_pos c, if_pos (by omega)]
        · rw [if_neg c, if_neg (by omega)]
      · unfold B_X0_weigh_11
        rw [(C_ps (hA m1 i2).1).trans w4, if_neg (nI_ge hp (by omega))]
        exact e3) (fun rc m1 ⟨i1, i2⟩ => by
      unfold B_X0_weigh_11
      rw [(C_ps (hA m1 i2).1).trans w4, if_pos (nI_le (Nat.le_refl _) (by omega))]) (Nat.zero_le _) (by omega) ⟨fun p' t' hp' ht' => by
        rw [f0 _ (by omega), if_neg (Nat.not_lt_zero _)]
        rfl, g0⟩
  refine ⟨m2, ?_, fun p t hp ht => ?_, i2⟩
  · unfold f_X0_weigh
    rw [e0]
    simp only [nc_some_bind]
    exact e2
  · rw [i1 p t hp ht, if_pos hp]
end WEIGH
