-- over whom: the class's last start
def s_us (S : nc_S) (pl : Nat) (rule : Int32) (t : Nat) (w : nc_Wy) (s : Nat → Nat) (p i : Nat) : Bool := decide (s (s_st S pl (w p).2.1 (w p).1 (w p).2.2 i).1 ≤ (s_st S pl (w p).2.1 (w p).1 (w p).2.2 i).2) && decide (s_mind S rule p t (nI (s_st S pl (w p).2.1 (w p).1 (w p).2.2 i).2) (-9) = 1)
def s_on (d : Int32) (o : Option Nat) : Int32 := match o with | some i => nI i | none => d
section OVC
variable {S : nc_S} {n pl ps th t : Nat} {X : Nat} {m : nc_Mem} {rule : Int32} {w : nc_Wy}
theorem C_lastStart {p j : Nat} {s : Nat → Nat} (cx : nc_CX S pl ps rule (-9) w X m) (ws : s_wf S n pl ps th) (ok : s_wok pl ps w) (hp : p < ps) (ht : t < th) (hs : ∀ q, q < 7 → m (X + 57) q = nI (s_cv (s q))) (hsb : ∀ q, s q ≤ 100000) (hj : j < s_len S pl (w p).2.1 (w p).1 (w p).2.2) : f_X2_lastStart m X (nI p) (nI t) (nI j) = some (s_on (-1) (s_lastI (s_us S pl rule t w s p) j)) := by
  have h5 := ws.2.2.2.2.1
  have h3 := ws.2.2.1
  have lenle := s_len_le (f := (w p).2.2) (g := (w p).2.1) (s_wf_ww ws) h3 (ok p hp).1
  have hwc := cx.2.2.2 p hp
  have key := nc_loop_ind (z := fun _ => none) (B := B_X2_lastStart_13 m X (nI p) (nI t) p) (fun r κ => r < s_len S pl (w p).2.1 (w p).1 (w p).2.2 → κ (nI r - 1) = some (s_on (-1) (s_lastI (s_us S pl rule t w s p) r))) (fun r κ ih hr => by
    cases r with
    | zero =>
      unfold B_X2_lastStart_13
      rw [if_pos (show nI 0 - 1 < 0 by decide)]
      rfl
    | succ i =>
      have hi : i < s_len S pl (w p).2.1 (w p).1 (w p).2.2 := by omega
      obtain ⟨g1, g2⟩ := s_E_mn ws ok hp hi
      have ihr := ih i (Nat.lt_succ_self i) hi
      have b := hsb (s_st S pl (w p).2.1 (w p).1 (w p).2.2 i).1
      have bcv := s_cv_b b
      have d2 : (nI (s_st S pl (w p).2.1 (w p).1 (w p).2.2 i).2 < nI (s_cv (s (s_st S pl (w p).2.1 (w p).1 (w p).2.2 i).1))) ↔ ((s_st S pl (w p).2.1 (w p).1 (w p).2.2 i).2 < s (s_st S pl (w p).2.1 (w p).1 (w p).2.2 i).1) := by rw [nI_lt' (by omega) (by omega)]; exact s_cv_lt (by omega)
      have el : s_lastI (s_us S pl rule t w s p) (i + 1) = if s_us S pl rule t w s p i = true then some i else s_lastI (s_us S pl rule t w s p) i := rfl
      rw [nI_pred, el]
      unfold B_X2_lastStart_13
      simp only [nc_let_eq]
      rw [if_neg (nI_pos (by omega)), nc_at_nI (by omega) (by omega), (hwc.2 i hi).1, (hwc.2 i hi).2, nc_at_nI (by omega) (by omega), hs _ (by omega), C_mind cx ws hp ht (N := 10000) ⟨_, g2, rfl⟩ (by omega), show nI i + (-1) = nI i - 1 from (Int32.sub_eq_add_neg _ _).symm, ihr]
      simp only [nc_some_bind]
      unfold s_us
      by_cases c : (s_st S pl (w p).2.1 (w p).1 (w p).2.2 i).2 < s (s_st S pl (w p).2.1 (w p).1 (w p).2.2 i).1
      · rw [if_pos (d2.mpr c), decide_eq_false (show ¬ s (s_st S pl (w p).2.1 (w p).1 (w p).2.2 i).1 ≤ (s_st S pl (w p).2.1 (w p).1 (w p).2.2 i).2 by omega), Bool.false_and, if_neg (by decide)]
      · rw [if_neg (fun z => c (d2.mp z)), decide_eq_true (show s (s_st S pl (w p).2.1 (w p).1 (w p).2.2 i).1 ≤ (s_st S pl (w p).2.1 (w p).1 (w p).2.2 i).2 by omega), Bool.true_and]
        rcases s_mind_01 S rule p t (nI (s_st S pl (w p).2.1 (w p).1 (w p).2.2 i).2) (-9) with k | k
        · rw [if_pos k, decide_eq_false (show ¬ s_mind S rule p t (nI (s_st S pl (w p).2.1 (w p).1 (w p).2.2 i).2) (-9) = 1 by rw [k]; decide), if_neg (by decide)]
        · rw [if_neg (by rw [k]; decide), decide_eq_true k, if_pos rfl]
          rfl) 200 j (by omega) hj
  unfold f_X2_lastStart
  simp only [nc_let_eq]
  rw [nc_at_nI (by omega) (by omega)]
  exact key
end OVC
