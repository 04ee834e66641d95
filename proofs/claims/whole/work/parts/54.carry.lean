-- carrying
def s_may (S : nc_S) (p t : Nat) (mn : Int32) : Int32 := if s_P S p 4 < s_T S t 4 then 0 else s_lets S (s_lw S) p t mn (s_T S t 9)
theorem s_may_01 (S : nc_S) (p t : Nat) (mn : Int32) : s_may S p t mn = 0 ∨ s_may S p t mn = 1 := by
  unfold s_may
  split
  · exact Or.inl rfl
  · exact s_lets_01 _ _ _ _ _ _
theorem nc_bd_le {n : Nat} (hn : n ≤ 1000) : nc_bd n ≤ 2 ^ 30 := by unfold nc_bd; omega
theorem nc_b01 {x : Int32} (h : x = 0 ∨ x = 1) : (if x = 0 then some (0 : Int32) else some 1) = some x := by
  rcases h with rfl | rfl <;> rfl
def s_sz (S : nc_S) (p : Nat) (j : Nat) (x : Int32) : Int32 := if s_T S j 7 = 10 + nI p then x + s_T S j 4 else x
def s_room (S : nc_S) (p t th : Nat) : Int32 := if s_P S p 4 < nc_fo (s_sz S p) th 0 0 + s_T S t 4 then 0 else 1
theorem nc_fo_add {g : Nat → Int32 → Int32} (h : ∀ j x y, g j (x + y) = g j x + y) : ∀ r j x y, nc_fo g r j (x + y) = nc_fo g r j x + y
  | 0, _, _, _ => rfl
  | r + 1, j, x, y => by
    show nc_fo g r (j + 1) (g j (x + y)) = nc_fo g r (j + 1) (g j x) + y
    rw [h]
    exact nc_fo_add h r (j + 1) _ y
theorem s_sz_add (S : nc_S) (p j : Nat) (x y : Int32) : s_sz S p j (x + y) = s_sz S p j x + y := by
  unfold s_sz
  split
  · rw [Int32.add_assoc, Int32.add_assoc, Int32.add_comm y]
  · rfl
section CARRY
variable {n : Nat} {A : nc_A} {LS : nc_Mem → Prop} {X M pl ps th p t : Nat} {mi : nc_Mem}
theorem C_lets (h : aC mi X = A) (wf : s_wf A.1 n pl ps th) (hn : n ≤ 1000) (hp : p < ps) (ht : t < th) {mn : Int32} {N : Nat} (hm : nc_ok mn N) (hN : N ≤ 2 ^ 30) : f_X5_letsCarry mi (X + 1) (nI p) (nI t) mn = some (s_may A.1 p t mn) := by
  have h5 := wf.2.2.2.2.1
  have h7 := wf.2.2.2.2.2.2.1
  have hg := (wf.2.2.2.2.2.2.2.2.2.2 t ht).2.2.2.2.2.2.2.2.2
  have hl := C_lawLets (C_v h) wf hp ht (rule := s_lw A.1) (mn := mn) (gv := s_T A.1 t 9) (N := 2 ^ 30) (Nat.le_refl _) (nc_ok_mono hm hN) (hg.imp id (fun z => nc_ok_mono z (nc_bd_le hn)))
  unfold f_X5_letsCarry f_X5_fits s_may
  rw [nc_at_nI (by omega) (by omega), nc_at_nI (by omega) (by omega), C_rP h (by omega) (by omega), C_rT h (by omega) (by omega)]
  by_cases c : s_P A.1 p 4 < s_T A.1 t 4
  · rw [if_pos c, if_pos c]
    rfl
  · rw [if_neg c, if_neg c]
    simp only [nc_some_bind]
    rw [if_neg (by decide), nc_at_nI (by omega) (by omega), C_lw h, C_rT h (by omega) (by omega), hl]
    simp only [nc_some_bind]
    exact nc_b01 (s_lets_01 _ _ _ _ _ _)
theorem M_may (h : aM mi M = A) (wf : s_wf A.1 n pl ps th) (hp : p < ps) (ht : t < th) {mn : Int32} : f_X8_mayNow mi M (nI p) (nI t) mn = some (s_may A.1 p t mn) := by
  have h5 := wf.2.2.2.2.1
  have h7 := wf.2.2.2.2.2.2.1
  have hl := M_lets (M_v h) wf hp ht (rule := s_lw A.1) (mn := mn) (gv := s_T A.1 t 9) wf.2.2.2.2.2.2.2.1
  unfold f_X8_mayNow f_X8_isFree s_may
  rw [nc_at_nI (by omega) (by omega), nc_at_nI (by omega) (by omega), M_rP h (by omega) (by omega), M_rT h (by omega) (by omega)]
  by_cases c : s_P A.1 p 4 < s_T A.1 t 4
  · rw [if_pos c, if_pos c]
    rfl
  · rw [if_neg c, if_neg c]
    simp only [nc_some_bind]
    rw [if_neg (by decide), nc_at_nI (by omega) (by omega), M_lw h, M_rT h (by omega) (by omega), hl]
    simp only [nc_some_bind]
    exact nc_b01 (s_lets_01 _ _ _ _ _ _)
theorem C_room (h : aC mi X = A) (e : s_th A.1 = nI th) (h7 : th ≤ 6) (hp : p < 6) (ht : t < 6) : f_X5_hasSpareRoom mi (X + 1) (nI p) (nI t) = some (s_room A.1 p t th) := by
  unfold f_X5_hasSpareRoom
  simp only [nc_let_eq]
  rw [nc_at_nI ht (by omega), C_rT h ht (by omega)]
  refine (nc_for2 (s_sz A.1 p) (fun x => if s_P A.1 p 4 < x then some 0 else some 1) th (fun rc x j hj => ?_) (fun rc x => ?_) (by omega)).trans ?_
  · unfold B_X5_hasSpareRoom_13 s_sz
    simp only [nc_let_eq]
    rw [C_th h, e, if_neg (nI_ge hj (by omega)), nc_at_nI (by omega) (by omega), C_rT h (by omega) (by omega), C_rT h (by omega) (by omega), nI_1]
    split <;> rfl
  · unfold B_X5_hasSpareRoom_13
    rw [C_th h, e, if_pos (nI_le (Nat.le_refl _) (by omega))]
    show (nc_at (nI p) 6 fun j5 => if mi (X + 1 + 5 + j5) 4 < x then some 0 else some 1) = _
    rw [nc_at_nI hp (by omega), C_rP h hp (by omega)]
  · unfold s_room
    rw [← nc_fo_add (s_sz_add A.1 p), show (0 : Int32) + s_T A.1 t 4 = s_T A.1 t 4 from Int32.zero_add _]
    split <;> rfl
theorem M_room (h : aM mi M = A) (e : s_th A.1 = nI th) (h7 : th ≤ 6) (hp : p < 6) (ht : t < 6) : f_X8_hasRoom mi M (nI p) (nI t) = some (s_room A.1 p t th) := by
  have hs : f_X8_sizeOn mi M (nI p) = some (nc_fo (s_sz A.1 p) th 0 0) := by
    unfold f_X8_sizeOn
    refine nc_for2 (s_sz A.1 p) some th (fun rc x j hj => ?_) (fun rc x => ?_) (by omega)
    · unfold B_X8_sizeOn_4 s_sz
      simp only [nc_let_eq]
      rw [M_th h, e, if_neg (nI_ge hj (by omega)), nc_at_nI (by omega) (by omega), M_rT h (by omega) (by omega), M_rT h (by omega) (by omega), nI_1, show x + 0 = x from Int32.add_zero x]
      split <;> rfl
    · unfold B_X8_sizeOn_4
      rw [M_th h, e, if_pos (nI_le (Nat.le_refl _) (by omega))]
  unfold f_X8_hasRoom s_room
  rw [hs]
  simp only [nc_some_bind]
  rw [nc_at_nI ht (by omega), nc_at_nI hp (by omega), M_rT h ht (by omega), M_rP h hp (by omega)]
  split <;> rfl
theorem sim_may (wf : nc_WF n A) (hn : n ≤ 1000) (a b c : Int32) : nc_SIM n A LS X M (fun mi => f_X7_may mi X a b c) (fun mi => f_X8_may mi M a b c) := by
  obtain ⟨⟨pl, ps, th, ws⟩, wl, wr⟩ := id wf
  obtain ⟨w1, w2, w3, w4, w5, w6, w7, w8, w9⟩ := id ws
  rcases nc_among a (n := ps) (by omega) with ⟨p, hp, rfl⟩ | ha
  · rcases nc_among b (n := th) (by omega) with ⟨t, ht, rfl⟩ | hb
    · by_cases h0 : c < 0
      · refine nc_SIM_ref wf 4 (by omega) (fun mi h hl => ?_) (fun mi h => ?_)
        · show f_X7_may mi X _ _ c = _
          unfold f_X7_may
          simp only [nc_let_eq]
          rw [C_isP ((C_ps h).trans w4) w5 hp, if_neg (by decide), C_isT ((C_th h).trans w6) w7 ht, if_neg (by decide), if_neg (nc_le0 h0)]
          rfl
        · show f_X8_may mi M _ _ c = _
          unfold f_X8_may
          rw [M_isP ((M_ps h).trans w4) w5 hp, M_isT ((M_th h).trans w6) w7 ht]
          simp only [nc_some_bind, nc_let_eq]
          rw [if_neg (by decide), if_neg (by decide), if_neg (nc_le0 h0)]
          rfl
      · obtain ⟨k, hk, rfl⟩ := nI_of h0
        have h0' : 0 ≤ nI k := nI_pos' hk
        by_cases h1 : k ≤ 9999
        · have h1' : nI k ≤ 9999 := nI_le (b := 9999) h1 (by omega)
          refine nc_SIM_id wf (s_may A.1 p t (nI k)) (fun mi h hl => ?_) (fun mi h => ?_)
          · show f_X7_may mi X _ _ _ = _
            unfold f_X7_may
            simp only [nc_let_eq]
            rw [C_isP ((C_ps h).trans w4) w5 hp, if_neg (by decide), C_isT ((C_th h).trans w6) w7 ht, if_neg (by decide), if_pos h0', if_pos h1', C_lets h ws hn hp ht (N := 10000) ⟨k, by omega, rfl⟩ (by omega)]
            simp only [nc_some_bind]
            rcases s_may_01 A.1 p t (nI k) with e | e <;> rw [e] <;> rfl
          · show f_X8_may mi M _ _ _ = _
            unfold f_X8_may
            rw [M_isP ((M_ps h).trans w4) w5 hp, M_isT ((M_th h).trans w6) w7 ht]
            simp only [nc_some_bind, nc_let_eq]
            rw [if_neg (by decide), if_neg (by decide), if_pos h0', if_pos h1', M_may h ws hp ht]
            simp only [nc_some_bind]
            rcases s_may_01 A.1 p t (nI k) with e | e <;> rw [e] <;> rfl
        · have h1' : ¬ nI k ≤ 9999 := nI_ge (a := 9999) (by omega) (by omega)
          refine nc_SIM_ref wf 6 (by omega) (fun mi h hl => ?_) (fun mi h => ?_)
          · show f_X7_may mi X _ _ _ = _
            unfold f_X7_may
            simp only [nc_let_eq]
            rw [C_isP ((C_ps h).trans w4) w5 hp, if_neg (by decide), C_isT ((C_th h).trans w6) w7 ht, if_neg (by decide), if_pos h0', if_neg h1']
            rfl
          · show f_X8_may mi M _ _ _ = _
            unfold f_X8_may
            rw [M_isP ((M_ps h).trans w4) w5 hp, M_isT ((M_th h).trans w6) w7 ht]
            simp only [nc_some_bind, nc_let_eq]
            rw [if_neg (by decide), if_neg (by decide), if_pos h0', if_neg h1']
            rfl
    · refine nc_SIM_ref wf 1 (by omega) (fun mi h hl => ?_) (fun mi h => ?_)
      · show f_X7_may mi X _ b c = _
        unfold f_X7_may
        simp only [nc_let_eq]
        rw [C_isP ((C_ps h).trans w4) w5 hp, if_neg (by decide), C_isTn ((C_th h).trans w6) hb, if_pos rfl]
        rfl
      · show f_X8_may mi M _ b c = _
        unfold f_X8_may
        rw [M_isP ((M_ps h).trans w4) w5 hp, M_isTn ((M_th h).trans w6) w7 hb]
        rfl
  · refine nc_SIM_ref wf 1 (by omega) (fun mi h hl => ?_) (fun mi h => ?_)
    · show f_X7_may mi X a b c = _
      unfold f_X7_may
      simp only [nc_let_eq]
      rw [C_isPn ((C_ps h).trans w4) ha, if_pos rfl]
      rfl
    · show f_X8_may mi M a b c = _
      unfold f_X8_may
      rw [M_isPn ((M_ps h).trans w4) w5 ha]
      rfl
end CARRY
-- how a town stays as it can be
theorem s_wf_78 {S : nc_S} {n pl ps th t : Nat} {v w : Int32} (h : s_wf S n pl ps th) (hv : nc_ok v pl ∨ ((∃ q : Nat, q < ps ∧ v = nI (10 + q)) ∧ w = 0)) (hw : nc_ok w (nc_bd n)) : s_wf (s_setT (s_setT S t 7 v) t 8 w) n pl ps th := by
  obtain ⟨w1, w2, w3, w4, w5, w6, w7, w8, w9, w10, w11⟩ := h
  refine ⟨w1, w2, w3, w4, w5, w6, w7, w8, w9, w10, fun t' ht' => ?_⟩
  obtain ⟨a1, a2, a3, a4, a5, a6, a7, a8, a9, a10⟩ := w11 t' ht'
  have q : ∀ k', s_T (s_setT (s_setT S t 7 v) t 8 w) t' k' = if t' = t ∧ k' = 8 then w else if t' = t ∧ k' = 7 then v else s_T S t' k' := fun _ => rfl
  unfold s_okT
  rw [q, q, q, q, q, q, q, q, q, q]
  refine ⟨by simpa using a1, by simpa using a2, by simpa using a3, by simpa using a4, by simpa using a5, by simpa using a6, by simpa using a7, ?_, ?_, by simpa using a10⟩
  · by_cases e : t' = t
    · simpa [e] using hv
    · simpa [e] using a8
  · by_cases e : t' = t
    · simpa [e] using hw
    · simpa [e] using a9
theorem s_wf_9 {S : nc_S} {n pl ps th t : Nat} {v : Int32} (h : s_wf S n pl ps th) (hv : nc_ok v (nc_bd n)) : s_wf (s_setT S t 9 v) n pl ps th := by
  obtain ⟨w1, w2, w3, w4, w5, w6, w7, w8, w9, w10, w11⟩ := h
  refine ⟨w1, w2, w3, w4, w5, w6, w7, w8, w9, w10, fun t' ht' => ?_⟩
  obtain ⟨a1, a2, a3, a4, a5, a6, a7, a8, a9, a10⟩ := w11 t' ht'
  have q : ∀ k', s_T (s_setT S t 9 v) t' k' = if t' = t ∧ k' = 9 then v else s_T S t' k' := fun _ => rfl
  unfold s_okT
  rw [q, q, q, q, q, q, q, q, q, q]
  refine ⟨by simpa using a1, by simpa using a2, by simpa using a3, by simpa using a4, by simpa using a5, by simpa using a6, by simpa using a7, by simpa using a8, by simpa using a9, ?_⟩
  by_cases e : t' = t
  · simpa [e] using Or.inr hv
  · simpa [e] using a10
theorem s_wf_P {S : nc_S} {n n' pl ps th : Nat} (h : s_wf S n pl ps th) (hn : n ≤ n') {p k : Nat} {v : Int32} (hk : (k = 5 ∧ nc_ok v pl) ∨ (k = 6 ∧ nc_ok v (nc_bd n'))) : s_wf (s_setP S p k v) n' pl ps th := by
  obtain ⟨w1, w2, w3, w4, w5, w6, w7, w8, w9, w10, w11⟩ := s_wf_mono h hn
  refine ⟨w1, w2, w3, w4, w5, w6, w7, w8, w9, fun p' hp' => ?_, w11⟩
  obtain ⟨a, b, c, d, e, f, g⟩ := w10 p' hp'
  have q : ∀ k', s_P (s_setP S p k v) p' k' = if p' = p ∧ k' = k then v else s_P S p' k' := fun _ => rfl
  refine ⟨?_, ?_, ?_, ?_, ?_, ?_, ?_⟩ <;> rw [q]
  · rw [if_neg (by omega)]; exact a
  · rw [if_neg (by omega)]; exact b
  · rw [if_neg (by omega)]; exact c
  · rw [if_neg (by omega)]; exact d
  · rw [if_neg (by omega)]; exact e
  · split
    · rename_i z
      rcases hk with ⟨-, hv⟩ | ⟨k6, -⟩
      · exact hv
      · omega
    · exact f
  · split
    · rename_i z
      rcases hk with ⟨k5, -⟩ | ⟨-, hv⟩
      · omega
      · exact hv
    · exact g
theorem nc_ok_max {a b : Int32} {N : Nat} (ha : nc_ok a N) (hb : nc_ok b N) : nc_ok (if a < b then b else a) N := by split <;> assumption
theorem nc_later (mi : nc_Mem) (a b : Int32) : f_X8_later mi a b = if a < b then b else a := by
  unfold f_X8_later
  by_cases h : a < b
  · rw [if_pos h, if_pos (Int32.le_of_lt h)]
  · rw [if_neg h]
    by_cases e : a ≤ b
    · rw [if_pos e]
      exact Int32.le_antisymm (Int32.not_lt.mp h) e
    · rw [if_neg e]
