-- TOWN: persons and things
def s_rP (v : Nat → Int32) : Nat → Int32 := fun k => if k = 5 then v 0 else if k = 6 then v 2 else v k
def s_rT (v : Nat → Int32) : Nat → Int32 := fun k => if k = 7 then v 2 else if k = 8 then 0 else if k = 9 then -9 else v k
section HM
variable {m : nc_Mem} {b R M p : Nat}
theorem C_hp_mem (hR : b + 17 ≤ R) (hp : p < 6) (h5 : m b 5 = nI p) : ∃ m', (nc_let (nc_up m (b + 5 + p) 0 (m R 0)) (fun (mi6 : nc_Mem) =>
nc_let (nc_up mi6 (b + 5 + p) 1 (mi6 R 1)) (fun (mi7 : nc_Mem) =>
nc_let (nc_up mi7 (b + 5 + p) 2 (mi7 R 2)) (fun (mi8 : nc_Mem) =>
nc_let (nc_up mi8 (b + 5 + p) 3 (mi8 R 3)) (fun (mi9 : nc_Mem) =>
nc_let (nc_up mi9 (b + 5 + p) 4 (mi9 R 4)) (fun (mi10 : nc_Mem) =>
nc_let (nc_up mi10 (b + 5 + p) 5 (mi10 (b + 5 + p) 0)) (fun (mi11 : nc_Mem) =>
nc_let (nc_up mi11 (b + 5 + p) 6 (mi11 (b + 5 + p) 2)) (fun (mi12 : nc_Mem) =>
nc_let (nc_up mi12 b 5 ((mi12 b 5) + 1)) (fun (mi13 : nc_Mem) =>
some (mi13, (1 : Int32)))))))))) = some (m', 1)) ∧ ∀ a k, m' a k = if a = b + 5 + p ∧ k < 7 then s_rP (fun i => m R i) k else if a = b ∧ k = 5 then nI (p + 1) else m a k := by
  refine ⟨_, rfl, fun a k => ?_⟩
  have hne : ¬ R = b + 5 + p := by omega
  have hne2 : ¬ b = b + 5 + p := by omega
  have e5 : m b 5 + 1 = nI (p + 1) := by rw [h5, nI_1]
  rw [← e5]
  unfold s_rP
  simp only [nc_up]
  by_cases c1 : a = b + 5 + p
  · subst c1
    by_cases k0 : k = 0
    · subst k0; simp [hne, hne2]
    by_cases k1 : k = 1
    · subst k1; simp [hne, hne2]
    by_cases k2 : k = 2
    · subst k2; simp [hne, hne2]
    by_cases k3 : k = 3
    · subst k3; simp [hne, hne2]
    by_cases k4 : k = 4
    · subst k4; simp [hne, hne2]
    by_cases k5 : k = 5
    · subst k5; simp [hne, hne2]; intro z; omega
    by_cases k6 : k = 6
    · subst k6; simp [hne, hne2]
    have : ¬ k < 7 := by omega
    simp [this, k0, k1, k2, k3, k4, k5, k6]
  · simp [c1, hne2]
theorem C_ht_mem (hR : b + 17 ≤ R) (hp : p < 6) (h5 : m b 6 = nI p) : ∃ m', (nc_let (nc_up m (b + 11 + p) 0 (m R 0)) (fun (mi8 : nc_Mem) =>
nc_let (nc_up mi8 (b + 11 + p) 1 (mi8 R 1)) (fun (mi9 : nc_Mem) =>
nc_let (nc_up mi9 (b + 11 + p) 2 (mi9 R 2)) (fun (mi10 : nc_Mem) =>
nc_let (nc_up mi10 (b + 11 + p) 3 (mi10 R 3)) (fun (mi11 : nc_Mem) =>
nc_let (nc_up mi11 (b + 11 + p) 4 (mi11 R 4)) (fun (mi12 : nc_Mem) =>
nc_let (nc_up mi12 (b + 11 + p) 5 (mi12 R 5)) (fun (mi13 : nc_Mem) =>
nc_let (nc_up mi13 (b + 11 + p) 6 (mi13 R 6)) (fun (mi14 : nc_Mem) =>
nc_let (nc_up mi14 (b + 11 + p) 7 (mi14 (b + 11 + p) 2)) (fun (mi15 : nc_Mem) =>
nc_let (nc_up mi15 (b + 11 + p) 8 0) (fun (mi16 : nc_Mem) =>
nc_let (nc_up mi16 (b + 11 + p) 9 (-9)) (fun (mi17 : nc_Mem) =>
nc_let (nc_up mi17 b 6 ((mi17 b 6) + 1)) (fun (mi18 : nc_Mem) =>
some (mi18, (1 : Int32))))))))))))) = some (m', 1)) ∧ ∀ a k, m' a k = if a = b + 11 + p ∧ k < 10 then s_rT (fun i => m R i) k else if a = b ∧ k = 6 then nI (p + 1) else m a k := by
  refine ⟨_, rfl, fun a k => ?_⟩
  have hne : ¬ R = b + 11 + p := by omega
  have hne2 : ¬ b = b + 11 + p := by omega
  have e5 : m b 6 + 1 = nI (p + 1) := by rw [h5, nI_1]
  rw [← e5]
  unfold s_rT
  simp only [nc_up]
  by_cases c1 : a = b + 11 + p
  · subst c1
    by_cases k0 : k = 0
    · subst k0; simp [hne, hne2]
    by_cases k1 : k = 1
    · subst k1; simp [hne, hne2]
    by_cases k2 : k = 2
    · subst k2; simp [hne, hne2]
    by_cases k3 : k = 3
    · subst k3; simp [hne, hne2]
    by_cases k4 : k = 4
    · subst k4; simp [hne, hne2]
    by_cases k5 : k = 5
    · subst k5; simp [hne, hne2]
    by_cases k6 : k = 6
    · subst k6; simp [hne, hne2]; intro z; omega
    by_cases k7 : k = 7
    · subst k7; simp [hne, hne2]
    by_cases k8 : k = 8
    · subst k8; simp [hne, hne2]
    by_cases k9 : k = 9
    · subst k9; simp [hne, hne2]
    have : ¬ k < 10 := by omega
    simp [this, k0, k1, k2, k3, k4, k5, k6, k7, k8, k9]
  · simp [c1, hne2]
theorem M_hp_mem (hp : p < 6) (h7 : m M 7 = nI p) : ∃ m', nc_loop (fun _ _ => none) (B_X8_personComes_68 M p (fun (mi10 : nc_Mem) =>
nc_let (nc_up mi10 (M + 12 + 1 + p) 5 (mi10 (M + 12 + 1 + p) 0)) (fun (mi11 : nc_Mem) =>
nc_let (nc_up mi11 (M + 12 + 1 + p) 6 (mi11 (M + 12 + 1 + p) 2)) (fun (mi12 : nc_Mem) =>
some (mi12, (1 : Int32)))))) 200 0 (nc_up m M 7 (nI (p + 1))) = some (m', 1) ∧ ∀ a k, m' a k = if a = M + 13 + p ∧ k < 7 then s_rP (fun i => m (M + 26) i) k else if a = M ∧ k = 7 then nI (p + 1) else m a k := by
  obtain ⟨m1, i1, e1⟩ := nc_forI (z := fun _ _ => none) (B := B_X8_personComes_68 M p (fun (mi10 : nc_Mem) =>
nc_let (nc_up mi10 (M + 12 + 1 + p) 5 (mi10 (M + 12 + 1 + p) 0)) (fun (mi11 : nc_Mem) =>
nc_let (nc_up mi11 (M + 12 + 1 + p) 6 (mi11 (M + 12 + 1 + p) 2)) (fun (mi12 : nc_Mem) =>
some (mi12, (1 : Int32)))))) (s := 0) (n := 200) (x := nc_up m M 7 (nI (p + 1))) (fun j m1 => ∀ a k, m1 a k = if a = M + 13 + p ∧ k < j then m (M + 26) k else if a = M ∧ k = 7 then nI (p + 1) else m a k) 5 (fun mi10 => some (nc_up (nc_up mi10 (M + 12 + 1 + p) 5 (mi10 (M + 12 + 1 + p) 0)) (M + 12 + 1 + p) 6 (nc_up mi10 (M + 12 + 1 + p) 5 (mi10 (M + 12 + 1 + p) 0) (M + 12 + 1 + p) 2), (1 : Int32))) (fun rc j m1 _ hj hI => by
      refine ⟨nc_up m1 (M + 13 + p) j (m (M + 26) j), fun a k => ?_, ?_⟩
      · by_cases c : a = M + 13 + p ∧ k = j
        · rw [c.1, c.2, nc_up_same, if_pos (by omega)]
        · rw [nc_up_ne c, hI]
          by_cases c2 : a = M + 13 + p ∧ k < j
          · rw [if_pos c2, if_pos (by omega)]
          · rw [if_neg c2, if_neg (show ¬ (a = M + 13 + p ∧ k < j + 1) by omega)]
      · unfold B_X8_personComes_68
        simp only [nc_let_eq]
        rw [if_neg (show ¬ 5 ≤ nI j from nI_ge (b := 5) hj (by omega)), nc_at_nI (by omega) (by omega), nI_1, hI (M + 26) j, if_neg (by omega), if_neg (by omega)]) (fun rc m1 _ => by
      unfold B_X8_personComes_68
      rw [if_pos (show 5 ≤ nI 5 by decide)]
      rfl) (Nat.zero_le _) (by omega) (fun a k => by
        rw [if_neg (by omega)]
        by_cases c : a = M ∧ k = 7
        · rw [if_pos c, c.1, c.2, nc_up_same]
        · rw [if_neg c, nc_up_ne c])
  refine ⟨_, e1, fun a k => ?_⟩
  have r0 : m1 (M + 12 + 1 + p) 0 = m (M + 26) 0 := by rw [i1, if_pos (by omega)]
  have r2 : m1 (M + 12 + 1 + p) 2 = m (M + 26) 2 := by rw [i1, if_pos (by omega)]
  rw [nc_up_ne (a' := M + 12 + 1 + p) (k' := 2) (by omega), r0, r2]
  unfold s_rP
  by_cases c6 : a = M + 13 + p ∧ k = 6
  · rw [c6.1, c6.2, show M + 13 + p = M + 12 + 1 + p from rfl, nc_up_same, if_pos (by omega), if_neg (by decide), if_pos rfl]
  · rw [nc_up_ne (by omega)]
    by_cases c5 : a = M + 13 + p ∧ k = 5
    · rw [c5.1, c5.2, show M + 13 + p = M + 12 + 1 + p from rfl, nc_up_same, if_pos (by omega), if_pos rfl]
    · rw [nc_up_ne (by omega), i1]
      by_cases c : a = M + 13 + p ∧ k < 5
      · rw [if_pos c, if_pos (by omega), if_neg (by omega), if_neg (by omega)]
      · rw [if_neg c, if_neg (show ¬ (a = M + 13 + p ∧ k < 7) by omega)]
theorem M_ht_mem (hp : p < 6) (h7 : m M 9 = nI p) : ∃ m', nc_loop (fun _ _ => none) (B_X8_thingComes_102 M p (fun (mi10 : nc_Mem) =>
nc_let (nc_up mi10 (M + 19 + 1 + p) 7 (mi10 (M + 19 + 1 + p) 2)) (fun (mi11 : nc_Mem) =>
nc_let (nc_up mi11 (M + 19 + 1 + p) 8 0) (fun (mi12 : nc_Mem) =>
nc_let (nc_up mi12 (M + 19 + 1 + p) 9 (-9)) (fun (mi13 : nc_Mem) =>
some (mi13, (1 : Int32))))))) 200 0 (nc_up m M 9 (nI (p + 1))) = some (m', 1) ∧ ∀ a k, m' a k = if a = M + 20 + p ∧ k < 10 then s_rT (fun i => m (M + 26) i) k else if a = M ∧ k = 9 then nI (p + 1) else m a k := by
  obtain ⟨m1, i1, e1⟩ := nc_forI (z := fun _ _ => none) (B := B_X8_thingComes_102 M p (fun (mi10 : nc_Mem) =>
nc_let (nc_up mi10 (M + 19 + 1 + p) 7 (mi10 (M + 19 + 1 + p) 2)) (fun (mi11 : nc_Mem) =>
nc_let (nc_up mi11 (M + 19 + 1 + p) 8 0) (fun (mi12 : nc_Mem) =>
nc_let (nc_up mi12 (M + 19 + 1 + p) 9 (-9)) (fun (mi13 : nc_Mem) =>
some (mi13, (1 : Int32))))))) (s := 0) (n := 200) (x := nc_up m M 9 (nI (p + 1))) (fun j m1 => ∀ a k, m1 a k = if a = M + 20 + p ∧ k < j then m (M + 26) k else if a = M ∧ k = 9 then nI (p + 1) else m a k) 7 (fun mi10 => some (nc_up (nc_up (nc_up mi10 (M + 19 + 1 + p) 7 (mi10 (M + 19 + 1 + p) 2)) (M + 19 + 1 + p) 8 0) (M + 19 + 1 + p) 9 (-9), (1 : Int32))) (fun rc j m1 _ hj hI => by
      refine ⟨nc_up m1 (M + 20 + p) j (m (M + 26) j), fun a k => ?_, ?_⟩
      · by_cases c : a = M + 20 + p ∧ k = j
        · rw [c.1, c.2, nc_up_same, if_pos (by omega)]
        · rw [nc_up_ne c, hI]
          by_cases c2 : a = M + 20 + p ∧ k < j
          · rw [if_pos c2, if_pos (by omega)]
          · rw [if_neg c2, if_neg (show ¬ (a = M + 20 + p ∧ k < j + 1) by omega)]
      · unfold B_X8_thingComes_102
        simp only [nc_let_eq]
        rw [if_neg (show ¬ 7 ≤ nI j from nI_ge (b := 7) hj (by omega)), nc_at_nI (by omega) (by omega), nc_at_nI (by omega) (by omega), nI_1, hI (M + 26) j, if_neg (by omega), if_neg (by omega)]) (fun rc m1 _ => by
      unfold B_X8_thingComes_102
      rw [if_pos (show 7 ≤ nI 7 by decide)]
      rfl) (Nat.zero_le _) (by omega) (fun a k => by
        rw [if_neg (by omega)]
        by_cases c : a = M ∧ k = 9
        · rw [if_pos c, c.1, c.2, nc_up_same]
        · rw [if_neg c, nc_up_ne c])
  refine ⟨_, e1, fun a k => ?_⟩
  have r2 : m1 (M + 19 + 1 + p) 2 = m (M + 26) 2 := by rw [i1, if_pos (by omega)]
  rw [r2]
  unfold s_rT
  by_cases c9 : a = M + 20 + p ∧ k = 9
  · rw [c9.1, c9.2, show M + 20 + p = M + 19 + 1 + p from rfl, nc_up_same, if_pos (by omega), if_neg (by decide), if_neg (by decide), if_pos rfl]
  · rw [nc_up_ne (by omega)]
    by_cases c8 : a = M + 20 + p ∧ k = 8
    · rw [c8.1, c8.2, show M + 20 + p = M + 19 + 1 + p from rfl, nc_up_same, if_pos (by omega), if_neg (by decide), if_pos rfl]
    · rw [nc_up_ne (by omega)]
      by_cases c7 : a = M + 20 + p ∧ k = 7
      · rw [c7.1, c7.2, show M + 20 + p = M + 19 + 1 + p from rfl, nc_up_same, if_pos (by omega), if_pos rfl]
      · rw [nc_up_ne (by omega), i1]
        by_cases c : a = M + 20 + p ∧ k < 7
        · rw [if_pos c, if_pos (by omega), if_neg (by omega), if_neg (by omega), if_neg (by omega)]
        · rw [if_neg c, if_neg (show ¬ (a = M + 20 + p ∧ k < 10) by omega)]
end HM
