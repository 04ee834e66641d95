-- over whom: all the way back
section OVB
variable {S : nc_S} {n pl ps th t : Nat} {X M : Nat} {m : nc_Mem} {rule : Int32} {w : nc_Wy}
theorem ov_X (ws : s_wf S n pl ps th) (ok : s_wok pl ps w) : ∀ p j, p < (s_E S pl ps rule t (-9) w).1 → j < (s_E S pl ps rule t (-9) w).2.1 p → (s_E S pl ps rule t (-9) w).2.2.1 p j < 7 := by
  intro p j hp hj
  rw [s_E_1] at hp
  rw [s_E_ln] at hj
  rw [s_E_x]
  have := (s_E_mn ws ok hp hj).1
  have := ws.2.2.1
  omega
theorem ov_M (ws : s_wf S n pl ps th) (ok : s_wok pl ps w) : ∀ p i j, p < (s_E S pl ps rule t (-9) w).1 → i < j → j < (s_E S pl ps rule t (-9) w).2.1 p → (s_E S pl ps rule t (-9) w).2.2.2.1 p i < (s_E S pl ps rule t (-9) w).2.2.2.1 p j := by
  intro p i j hp hij hj
  rw [s_E_1] at hp
  rw [s_E_ln] at hj
  rw [s_E_m, s_E_m]
  exact s_way_mn (s_wf_ww ws) ws.2.2.1 (ok p hp).1 hij hj
theorem ov_I (ws : s_wf S n pl ps th) (ok : s_wok pl ps w) : ∀ p i j, p < (s_E S pl ps rule t (-9) w).1 → i < (s_E S pl ps rule t (-9) w).2.1 p → j < (s_E S pl ps rule t (-9) w).2.1 p → (s_E S pl ps rule t (-9) w).2.2.1 p i = (s_E S pl ps rule t (-9) w).2.2.1 p j → i = j := by
  intro p i j hp hi hj e
  rw [s_E_1] at hp
  rw [s_E_ln] at hi hj
  rw [s_E_x, s_E_x] at e
  exact s_way_inj (s_wf_ww ws) ws.2.2.1 (ok p hp).1 hi hj e
theorem ov_b (ws : s_wf S n pl ps th) (ok : s_wok pl ps w) : ∀ p i, p < (s_E S pl ps rule t (-9) w).1 → i < (s_E S pl ps rule t (-9) w).2.1 p → (s_E S pl ps rule t (-9) w).2.2.2.1 p i < 100000 := by
  intro p i hp hi
  rw [s_E_1] at hp
  rw [s_E_ln] at hi
  rw [s_E_m]
  have := (s_E_mn ws ok hp hi).2
  omega
theorem ov_s {q : Nat} (h : ¬ q = s_cl (s_T S t 2)) : s_s0 S t q = 100000 := if_neg h
end OVB
