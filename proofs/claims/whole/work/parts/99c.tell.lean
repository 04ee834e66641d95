-- TOWN: statements are told
theorem vM_fr2 {mi mi' : nc_Mem} {M : Nat} (h : ∀ a k, M ≤ a → a < M + 26 → (a = M → k = 5 ∨ k = 7 ∨ k = 9 ∨ k = 11) → mi' a k = mi a k) : vM mi' M = vM mi M := by
  simp only [vM, Prod.mk.injEq]
  refine ⟨?_, ?_, ?_, ?_, ?_, ?_, ?_⟩ <;> (try funext i j) <;> (try split) <;> first | rfl | exact h _ _ (by omega) (by omega) (by omega)
def p_FT (X : Nat) (m m' : nc_Mem) : Prop := ∀ a k, ¬ ((a = X + 52 ∧ k = 3) ∨ a = X + 54 ∨ (X + 18 ≤ a ∧ a < X + 35)) → m' a k = m a k
def p_GT (M : Nat) (m m' : nc_Mem) : Prop := ∀ a k, ¬ ((a = M ∧ (k = 5 ∨ k = 7 ∨ k = 9 ∨ k = 14 ∨ k = 16)) ∨ (M + 5 ≤ a ∧ a < M + 27)) → m' a k = m a k
section TELL
variable {L : Nat} {ch : Nat → Int32} {X M tr n : Nat} {k2 k7 : Int32 → nc_Mem → Option (nc_Mem × Int32)}
theorem p_FT_t {m1 m2 m3 : nc_Mem} (h : p_FT X m1 m2) (h' : p_FT X m2 m3) : p_FT X m1 m3 := fun a k z => (h' a k z).trans (h a k z)
theorem p_GT_t {m1 m2 m3 : nc_Mem} (h : p_GT M m1 m2) (h' : p_GT M m2 m3) : p_GT M m1 m3 := fun a k z => (h' a k z).trans (h a k z)
theorem p_C_T {m m' : nc_Mem} (h : p_C L ch X m) (hF : p_FT X m m') : p_C L ch X m' := ⟨(hF _ _ (by omega)).trans h.1, fun i hi => (hF _ _ (by omega)).trans (h.2 i hi)⟩
theorem p_M_T {m m' : nc_Mem} (h : p_M L ch M m) (hF : p_GT M m m') : p_M L ch M m' := ⟨(hF _ _ (by omega)).trans h.1, fun i hi => (hF _ _ (by omega)).trans (h.2 i hi)⟩
theorem tell_sim (hL : L ≤ 64) : ∀ r nC nM st told S, r < nC → r < nM → told + r = 64 → 192 ≤ st + 3 * r → st ≤ L → s_good n S → p_nx L ch r st = none →
  (∃ S' k, s_good n S' ∧ (∀ m, p_C L ch X m → vC m (X + 18) = S → ∃ m', nc_loop (fun _ _ _ => none) (B_X7_tellStatements_15 X k2) nC (nI told) (nI st) m = k2 (nI k) m' ∧ vC m' (X + 18) = S' ∧ p_FT X m m') ∧ (∀ m, p_M L ch M m → vM m M = S → m M 14 = nI st → ∃ m', nc_loop (fun _ _ => none) (B_X8_town_55 M tr k7) nM (nI told) m = k7 (nI k) m' ∧ vM m' M = S' ∧ p_GT M m m')) ∨
  (∃ q, (∀ m, p_C L ch X m → vC m (X + 18) = S → ∃ m', nc_loop (fun _ _ _ => none) (B_X7_tellStatements_15 X k2) nC (nI told) (nI st) m = some (m', (-2000) - nI q) ∧ p_FT X m m') ∧ (∀ m, p_M L ch M m → vM m M = S → m M 14 = nI st → ∃ m', nc_loop (fun _ _ => none) (B_X8_town_55 M tr k7) nM (nI told) m = Option.bind (f_X8_takeFrom m' M tr) (fun q21 => some (nc_up q21 M 1 0, (-2000) - nI q)) ∧ p_GT M m m')) := by
  intro r
  induction r with
  | zero =>
    intro nC nM st told S hC hM ht hr hst hg hn
    omega
  | succ r ih =>
    intro nC nM st told S hC hM ht hr hst hg hn
    obtain ⟨nC, rfl⟩ : ∃ n', nC = n' + 1 := ⟨nC - 1, by omega⟩
    obtain ⟨nM, rfl⟩ : ∃ n', nM = n' + 1 := ⟨nM - 1, by omega⟩
    rw [nc_loop_s, nc_loop_s]
    by_cases cL : L ≤ st
    · refine Or.inl ⟨S, told, hg, fun m hc hv => ⟨m, ?_, hv, fun _ _ _ => rfl⟩, fun m hc hv h14 => ⟨m, ?_, hv, fun _ _ _ => rfl⟩⟩
      · unfold B_X7_tellStatements_15
        rw [hc.1, if_pos (nI_le cL (by omega))]
      · unfold B_X8_town_55
        rw [hc.1, h14, if_pos (nI_le cL (by omega))]
    · have en : p_nx L ch (r + 1) st = if (p_read L ch st).1 = true then p_nx L ch r (p_read L ch st).2.1 else some (p_read L ch st).2.1 := by
        unfold p_nx
        rw [if_neg cL]
        rfl
      rw [en] at hn
      by_cases cok : (p_read L ch st).1 = true
      · rw [if_pos cok] at hn
        obtain ⟨q1, q2⟩ := p_read_q (L := L) (ch := ch) hst
        obtain ⟨q3, q4, -⟩ := q2 cok
        have stC : ∀ m, p_C L ch X m → vC m (X + 18) = S → ∃ m1, B_X7_tellStatements_15 X k2 (nc_loop (fun _ _ _ => none) (B_X7_tellStatements_15 X k2) nC) (nI told) (nI st) m = Option.bind (f_X5_hear m1 (X + 18) (p_sg L ch st) (X + 52 + 2)) (fun q15 => if q15.2 = 0 then some (q15.1, (-2000) - nI st) else nc_loop (fun _ _ _ => none) (B_X7_tellStatements_15 X k2) nC (nI (told + 1)) (nI (p_read L ch st).2.1) q15.1) ∧ vC m1 (X + 18) = S ∧ nc_nC (X + 52 + 2) (p_read L ch st).2.2 m1 ∧ p_FT X m m1 := fun m hc hv => by
          obtain ⟨m1, e1, n1, n2, F1⟩ := C_read hc hL hst
          refine ⟨m1, ?_, ?_, n1 cok, fun a k ha => F1 a k (by omega)⟩
          · unfold B_X7_tellStatements_15
            rw [hc.1, if_neg (nI_ge (by omega) (by omega)), if_neg (show ¬ 64 ≤ nI told from nI_ge (b := 64) (by omega) (by omega)), e1, nc_some_bind]
            unfold p_ans
            rw [if_pos cok]
            simp only
            rw [if_neg (nI_pos (show (p_read L ch st).2.1 < 2 ^ 31 by omega)), n2]
            simp only [nc_let_eq]
            rw [nI_1]
          · rw [← hv]
            exact vC_fr (fun a k a1 a2 a3 => F1 a k (by omega))
        have stM : ∀ m, p_M L ch M m → vM m M = S → m M 14 = nI st → ∃ m1, B_X8_town_55 M tr k7 (nc_loop (fun _ _ => none) (B_X8_town_55 M tr k7) nM) (nI told) m = Option.bind (f_X8_comes m1 M (p_sg L ch st)) (fun q18 => if q18.2 = 0 then Option.bind (f_X8_takeFrom q18.1 M tr) (fun q21 => some (nc_up q21 M 1 0, (-2000) - nI st)) else nc_loop (fun _ _ => none) (B_X8_town_55 M tr k7) nM (nI (told + 1)) q18.1) ∧ vM m1 M = S ∧ nc_nC (M + 26) (p_read L ch st).2.2 m1 ∧ m1 M 14 = nI (p_read L ch st).2.1 ∧ p_GT M m m1 := fun m hc hv h14 => by
          obtain ⟨m1, e1, R1⟩ := M_goes hc hL hst h14
          obtain ⟨r1, r2, r3, r4⟩ := R1
          refine ⟨m1, ?_, ?_, r3, r1, fun a k ha => r4 a k (by omega)⟩
          · unfold B_X8_town_55
            rw [hc.1, h14, if_neg (nI_ge (by omega) (by omega))]
            simp only [nc_let_eq]
            rw [e1, nc_some_bind, nc_at_nI (show st < 64 by omega) (by omega)]
            simp only
            rw [(p_M_G hc r4).2 st (by omega), show ch st = p_sg L ch st from (if_pos q4).symm, nI_1]
          · rw [← hv]
            exact vM_fr2 (fun a k a1 a2 a3 => r4 a k (by omega))
        rcases HS_any (n := n) (b := X + 18) (R := X + 52 + 2) (M := M) hg (by omega) hst cok with ⟨S1, hg1, hC1, hM1⟩ | ⟨hC1, hM1⟩
        · have okC : ∀ m, p_C L ch X m → vC m (X + 18) = S → ∃ m2, B_X7_tellStatements_15 X k2 (nc_loop (fun _ _ _ => none) (B_X7_tellStatements_15 X k2) nC) (nI told) (nI st) m = nc_loop (fun _ _ _ => none) (B_X7_tellStatements_15 X k2) nC (nI (told + 1)) (nI (p_read L ch st).2.1) m2 ∧ p_C L ch X m2 ∧ vC m2 (X + 18) = S1 ∧ p_FT X m m2 := fun m hc hv => by
            obtain ⟨m1, e1, v1, n1, F1⟩ := stC m hc hv
            obtain ⟨m2, e2, v2, F2⟩ := hC1 m1 v1 n1
            have F3 : p_FT X m m2 := fun a k ha => (F2 a k (by omega)).trans (F1 a k ha)
            refine ⟨m2, ?_, p_C_T hc F3, v2, F3⟩
            rw [e1, e2, nc_some_bind]
            rfl
          have okM : ∀ m, p_M L ch M m → vM m M = S → m M 14 = nI st → ∃ m2, B_X8_town_55 M tr k7 (nc_loop (fun _ _ => none) (B_X8_town_55 M tr k7) nM) (nI told) m = nc_loop (fun _ _ => none) (B_X8_town_55 M tr k7) nM (nI (told + 1)) m2 ∧ p_M L ch M m2 ∧ vM m2 M = S1 ∧ m2 M 14 = nI (p_read L ch st).2.1 ∧ p_GT M m m2 := fun m hc hv h14 => by
            obtain ⟨m1, e1, v1, n1, f1, F1⟩ := stM m hc hv h14
            obtain ⟨m2, e2, v2, F2⟩ := hM1 m1 v1 n1
            have F3 : p_GT M m m2 := fun a k ha => (F2 a k (by omega)).trans (F1 a k ha)
            refine ⟨m2, ?_, p_M_T hc F3, v2, (F2 _ _ (by omega)).trans f1, F3⟩
            rw [e1, e2, nc_some_bind]
            rfl
          rcases ih nC nM (p_read L ch st).2.1 (told + 1) S1 (by omega) (by omega) (by omega) (by omega) q1 hg1 hn with ⟨S', k, g', jC, jM⟩ | ⟨q, jC, jM⟩
          · refine Or.inl ⟨S', k, g', fun m hc hv => ?_, fun m hc hv h14 => ?_⟩
            · obtain ⟨m2, e2, c2, v2, F2⟩ := okC m hc hv
              obtain ⟨m3, e3, v3, F3⟩ := jC m2 c2 v2
              exact ⟨m3, e2.trans e3, v3, p_FT_t F2 F3⟩
            · obtain ⟨m2, e2, c2, v2, f2, F2⟩ := okM m hc hv h14
              obtain ⟨m3, e3, v3, F3⟩ := jM m2 c2 v2 f2
              exact ⟨m3, e2.trans e3, v3, p_GT_t F2 F3⟩
          · refine Or.inr ⟨q, fun m hc hv => ?_, fun m hc hv h14 => ?_⟩
            · obtain ⟨m2, e2, c2, v2, F2⟩ := okC m hc hv
              obtain ⟨m3, e3, F3⟩ := jC m2 c2 v2
              exact ⟨m3, e2.trans e3, p_FT_t F2 F3⟩
            · obtain ⟨m2, e2, c2, v2, f2, F2⟩ := okM m hc hv h14
              obtain ⟨m3, e3, F3⟩ := jM m2 c2 v2 f2
              exact ⟨m3, e2.trans e3, p_GT_t F2 F3⟩
        · refine Or.inr ⟨st, fun m hc hv => ?_, fun m hc hv h14 => ?_⟩
          · obtain ⟨m1, e1, v1, n1, F1⟩ := stC m hc hv
            refine ⟨m1, ?_, F1⟩
            rw [e1, hC1 m1 v1 n1, nc_some_bind]
            rfl
          · obtain ⟨m1, e1, v1, n1, f1, F1⟩ := stM m hc hv h14
            refine ⟨m1, ?_, F1⟩
            rw [e1, hM1 m1 v1 n1, nc_some_bind]
            rfl
      · rw [if_neg cok] at hn
        cases hn
end TELL
