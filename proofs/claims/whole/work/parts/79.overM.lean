-- over whom: the reference's last stop
theorem s_fnd_q {P : Nat → Bool} : ∀ r i, s_fnd P r i ≤ i + r ∧ (s_fnd P r i < i + r → P (s_fnd P r i) = true) ∧ ∀ j, i ≤ j → j < s_fnd P r i → ¬ P j = true
  | 0, i => ⟨Nat.le_refl _, fun h => absurd h (Nat.lt_irrefl _), fun j h1 h2 => absurd (Nat.lt_of_le_of_lt h1 h2) (Nat.lt_irrefl _)⟩
  | r + 1, i => by
    by_cases c : P i = true
    · have e : s_fnd P (r + 1) i = i := if_pos c
      rw [e]
      exact ⟨by omega, fun _ => c, fun j h1 h2 => by omega⟩
    · have e : s_fnd P (r + 1) i = s_fnd P r (i + 1) := if_neg c
      obtain ⟨a, b, d⟩ := s_fnd_q (P := P) r (i + 1)
      rw [e]
      refine ⟨by omega, fun h => b (by omega), fun j h1 h2 => ?_⟩
      by_cases e' : j = i
      · rw [e']; exact c
      · exact d j (by omega) h2
section OVM
variable {S : nc_S} {n pl ps th t : Nat} {X M : Nat} {m : nc_Mem} {rule : Int32} {w : nc_Wy}
def s_j0 (S : nc_S) (pl : Nat) (w : nc_Wy) (p q : Nat) : Nat := s_fnd (fun j => decide ((s_st S pl (w p).2.1 (w p).1 (w p).2.2 j).1 = q)) (s_len S pl (w p).2.1 (w p).1 (w p).2.2) 0
theorem s_brg_E {s : Nat → Nat} {p q : Nat} : s_brg (s_E S pl ps rule t (-9) w) s p q = if s_j0 S pl w p q < s_len S pl (w p).2.1 (w p).1 (w p).2.2 ∧ (s_st S pl (w p).2.1 (w p).1 (w p).2.2 (s_j0 S pl w p q)).2 = s q then s_lastI (s_us S pl rule t w s p) (s_j0 S pl w p q) else none := by
  have e1 : (fun j => decide ((s_E S pl ps rule t (-9) w).2.2.1 p j = q)) = (fun j => decide ((s_st S pl (w p).2.1 (w p).1 (w p).2.2 j).1 = q)) := funext (fun j => by rw [s_E_x])
  have e2 : (fun i => decide (s ((s_E S pl ps rule t (-9) w).2.2.1 p i) ≤ (s_E S pl ps rule t (-9) w).2.2.2.1 p i) && (s_E S pl ps rule t (-9) w).2.2.2.2 p i) = s_us S pl rule t w s p := funext (fun i => by rw [s_E_x, s_E_m, s_E_l]; rfl)
  unfold s_brg
  rw [e1, e2, s_E_ln, s_E_m]
  rfl
theorem M_brings {p q : Nat} {s : Nat → Nat} (mx : nc_MY S pl ps w M m) (ws : s_wf S n pl ps th) (ok : s_wok pl ps w) (hp : p < ps) (ht : t < th) (hq : q < 7) (hs : ∀ q, q < 7 → m (M + 50) q = nI (s q)) (hsb : ∀ q, s q ≤ 100000) : f_X8_bringsFrom m M (nI p) (nI t) (nI q) (nI (s q)) = some (s_on (-9) (s_brg (s_E S pl ps (s_lw S) t (-9) w) s p q)) := by
  have h5 := ws.2.2.2.2.1
  have h3 := ws.2.2.1
  have lenle := s_len_le (f := (w p).2.2) (g := (w p).2.1) (s_wf_ww ws) h3 (ok p hp).1
  have hwc := mx.2 p hp
  obtain ⟨f1, f2, f3⟩ := s_fnd_q (P := fun j => decide ((s_st S pl (w p).2.1 (w p).1 (w p).2.2 j).1 = q)) (s_len S pl (w p).2.1 (w p).1 (w p).2.2) 0
  simp only [decide_eq_true_eq, Nat.zero_add] at f1 f2 f3
  have ej : s_fnd (fun j => decide ((s_st S pl (w p).2.1 (w p).1 (w p).2.2 j).1 = q)) (s_len S pl (w p).2.1 (w p).1 (w p).2.2) 0 = s_j0 S pl w p q := rfl
  rw [ej] at f1 f2 f3
  rw [s_brg_E]
  generalize s_j0 S pl w p q = j0 at f1 f2 f3
  have key := nc_loop_ind (z := fun _ _ => none) (B := B_X8_bringsFrom_7 m M (nI p) (nI t) (nI q) (nI (s q))) (fun r κ => ∀ k, k + r = j0 → κ (s_on (-9) (s_lastI (s_us S pl (s_lw S) t w s p) k)) (nI k) = some (s_on (-9) (if j0 < s_len S pl (w p).2.1 (w p).1 (w p).2.2 ∧ (s_st S pl (w p).2.1 (w p).1 (w p).2.2 j0).2 = s q then s_lastI (s_us S pl (s_lw S) t w s p) j0 else none))) (fun r κ ih k hk => by
    unfold B_X8_bringsFrom_7
    simp only [nc_let_eq]
    rw [nc_at_nI (by omega) (by omega), hwc.1]
    cases r with
    | zero =>
      have : k = j0 := by omega
      subst this
      by_cases c : k < s_len S pl (w p).2.1 (w p).1 (w p).2.2
      · obtain ⟨g1, g2⟩ := s_E_mn ws ok hp c
        have b := hsb q
        rw [if_neg (nI_ge c (by omega)), nc_at_nI (by omega) (by omega), (hwc.2 k c).1, (hwc.2 k c).2, f2 c, if_pos rfl]
        by_cases c' : (s_st S pl (w p).2.1 (w p).1 (w p).2.2 k).2 = s q
        · rw [if_pos (congrArg nI c'), if_pos ⟨c, c'⟩]
        · rw [if_neg (fun z => c' ((nI_eq (by omega) (by omega)).mp z)), if_neg (fun z => c' z.2)]
          rfl
      · rw [if_pos (nI_le (by omega) (by omega)), if_neg (fun z => c z.1)]
        rfl
    | succ r =>
      have c : k < s_len S pl (w p).2.1 (w p).1 (w p).2.2 := by omega
      obtain ⟨g1, g2⟩ := s_E_mn ws ok hp c
      have hne := f3 k (Nat.zero_le _) (by omega)
      have b := hsb (s_st S pl (w p).2.1 (w p).1 (w p).2.2 k).1
      have el : s_lastI (s_us S pl (s_lw S) t w s p) (k + 1) = if s_us S pl (s_lw S) t w s p k = true then some k else s_lastI (s_us S pl (s_lw S) t w s p) k := rfl
      have ihr := ih r (Nat.lt_succ_self r) (k + 1) (by omega)
      rw [el] at ihr
      rw [if_neg (nI_ge c (by omega)), nc_at_nI (by omega) (by omega), (hwc.2 k c).1, (hwc.2 k c).2, if_neg (fun z => hne ((nI_eq (by omega) (by omega)).mp z)), nc_at_nI (by omega) (by omega), hs _ (by omega), nc_MY_lw mx, M_mind' mx.1 ws hp ht ws.2.2.2.2.2.2.2.1, nI_1]
      simp only [nc_some_bind]
      unfold s_us at ihr
      by_cases c' : (s_st S pl (w p).2.1 (w p).1 (w p).2.2 k).2 < s (s_st S pl (w p).2.1 (w p).1 (w p).2.2 k).1
      · rw [decide_eq_false (show ¬ s (s_st S pl (w p).2.1 (w p).1 (w p).2.2 k).1 ≤ (s_st S pl (w p).2.1 (w p).1 (w p).2.2 k).2 by omega), Bool.false_and, if_neg (by decide)] at ihr
        rw [if_pos (nI_lt c' (by omega))]
        exact ihr
      · rw [decide_eq_true (show s (s_st S pl (w p).2.1 (w p).1 (w p).2.2 k).1 ≤ (s_st S pl (w p).2.1 (w p).1 (w p).2.2 k).2 by omega), Bool.true_and] at ihr
        rw [if_neg (nI_nlt (by omega) (by omega))]
        rcases s_mind_01 S (s_lw S) p t (nI (s_st S pl (w p).2.1 (w p).1 (w p).2.2 k).2) (-9) with e | e
        · rw [decide_eq_false (show ¬ s_mind S (s_lw S) p t (nI (s_st S pl (w p).2.1 (w p).1 (w p).2.2 k).2) (-9) = 1 by rw [e]; decide), if_neg (by decide)] at ihr
          rw [if_pos e]
          exact ihr
        · rw [decide_eq_true e, if_pos rfl] at ihr
          rw [if_neg (by rw [e]; decide)]
          exact ihr) 200 j0 (by omega) 0 (by omega)
  exact key
end OVM
