-- EACH: the reference's seeking
theorem aM_fr2 {mi mi' : nc_Mem} {M : Nat} (h : ∀ a k, M ≤ a → a < M + 26 → ¬ (a = M ∧ k = 26) → mi' a k = mi a k) : aM mi' M = aM mi M := by
  simp only [aM, vM, Prod.mk.injEq]
  refine ⟨⟨?_, ?_, ?_, ?_, ?_, ?_, ?_⟩, ⟨?_, ?_⟩, ⟨?_, ?_⟩, ?_⟩ <;> (try funext i) <;> (try funext j) <;> (try split) <;> first | rfl | exact h _ _ (by omega) (by omega) (by omega)
def nc_sF (M : Nat) (m0 m : nc_Mem) : Prop := ∀ a k, ¬ ((a = M ∧ k = 26) ∨ a = M + 52 ∨ a = M + 53) → m a k = m0 a k
def nc_vB (M ps : Nat) (m : nc_Mem) : Nat → Int32 := fun i => if i < ps then m (M + 53) i else 0
def nc_pB (ps p : Nat) (h Q : Nat → Int32) : Nat → Int32 := fun i => if i < ps then (if i < p then h i else Q i) else 0
theorem e_P_s (D : nc_De) (r p T i : Nat) : e_P D (r + 1) p T i = (match e_c D r p T with
    | none => if i = p then -9 else e_P D r (p + 1) T i
    | some t => if i = p then nI t else e_P D r (p + 1) (e_or T t) i) := rfl
theorem nc_pB_cg {ps p : Nat} {h h' Q Q' : Nat → Int32} (e : ∀ i, i < p → h i = h' i) (e' : ∀ i, p ≤ i → Q i = Q' i) : nc_pB ps p h Q = nc_pB ps p h' Q' := by
  funext i
  unfold nc_pB
  by_cases c : i < ps
  · rw [if_pos c, if_pos c]
    by_cases c2 : i < p
    · rw [if_pos c2, if_pos c2, e i c2]
    · rw [if_neg c2, if_neg c2, e' i (by omega)]
  · rw [if_neg c, if_neg c]
theorem nc_pB_n {ps p : Nat} {h Q R : Nat → Int32} {u : Int32} (e : ∀ i, R i = if i = p then u else Q i) : nc_pB ps (p + 1) (fun i => if i = p then u else h i) Q = nc_pB ps p h R := by
  funext i
  unfold nc_pB
  by_cases c : i < ps
  · rw [if_pos c, if_pos c, e i]
    by_cases c2 : i < p
    · rw [if_pos (show i < p + 1 by omega), if_pos c2]
      exact if_neg (by omega)
    · by_cases c3 : i = p
      · rw [if_pos (show i < p + 1 by omega), if_neg c2, if_pos c3]
        exact if_pos c3
      · rw [if_neg (by omega), if_neg c2, if_neg c3]
  · rw [if_neg c, if_neg c]
theorem nc_vB_fr {M ps : Nat} {m m' : nc_Mem} (h : ∀ k, m' (M + 53) k = m (M + 53) k) : nc_vB M ps m' = nc_vB M ps m := by
  funext i
  unfold nc_vB
  rw [h i]
section SEEK
variable {n : Nat} {A : nc_A} {M pl ps th : Nat} {a4 : Int32} {m0 : nc_Mem}
theorem M_leaf {m : nc_Mem} (h7 : m M 7 = nI ps) (h6 : ps ≤ 6) : ∃ m', nc_loop (fun _ _ => none) (B_X8_seek_24 M) 200 0 m = some m' ∧ (∀ i, i < ps → m' (M + 53) i = m (M + 52) i) ∧ ∀ a k, ¬ a = M + 53 → m' a k = m a k := by
  obtain ⟨m', ⟨i1, i2⟩, e⟩ := nc_forI (z := fun _ _ => none) (B := B_X8_seek_24 M) (s := 0) (n := 200) (x := m) (fun j m1 => (∀ i, i < j → m1 (M + 53) i = m (M + 52) i) ∧ ∀ a k, ¬ a = M + 53 → m1 a k = m a k) ps some (fun rc j m1 _ hj ⟨i1, i2⟩ => by
      refine ⟨nc_up m1 (M + 53) j (m1 (M + 52) j), ⟨fun i hi => ?_, fun a k ha => (nc_up_na ha).trans (i2 a k ha)⟩, ?_⟩
      · by_cases c : i = j
        · rw [c, nc_up_same, i2 _ _ (by omega)]
        · rw [nc_up_ne (by omega)]
          exact i1 i (by omega)
      · unfold B_X8_seek_24
        simp only [nc_let_eq]
        rw [i2 M 7 (by omega), h7, if_neg (nI_ge hj (by omega)), nc_at_nI (by omega) (by omega), nI_1]) (fun rc m1 ⟨i1, i2⟩ => by
      unfold B_X8_seek_24
      rw [i2 M 7 (by omega), h7, if_pos (nI_le (Nat.le_refl _) (by omega))]) (Nat.zero_le _) (by omega) ⟨fun i hi => absurd hi (Nat.not_lt_zero _), fun _ _ _ => rfl⟩
  exact ⟨m', e, i1, i2⟩
theorem M_seek (h0 : aM m0 M = A) (hf0 : nc_fr_far A.1 M pl m0) (ws : s_wf A.1 n pl ps th) {D : nc_De} (hD : D = s_De A.1 th a4) : ∀ r N p T (s b0 : Int) (m : nc_Mem), r < N → p + r = ps → T < 64 → -30000 * (p : Int) ≤ s → s ≤ 100 * (p : Int) → 0 ≤ b0 → b0 ≤ 1000 → nc_sF M m0 m → m M 26 = iI b0 → ∃ m', f_X8_seek N M m (nI p) (nI T) (iI s) a4 = some m' ∧ nc_sF M m0 m' ∧ m' M 26 = iI (if b0 < s + e_V D r p T then s + e_V D r p T else b0) ∧ nc_vB M ps m' = (if b0 < s + e_V D r p T then nc_pB ps p (fun i => m (M + 52) i) (e_P D r p T) else nc_vB M ps m) ∧ ∀ i, i < p → m' (M + 52) i = m (M + 52) i := by
  obtain ⟨w1, w2, w3, w4, w5, w6, w7, w8, w9, w10, w11⟩ := id ws
  have hbd : e_bd D ps := by rw [hD]; exact s_De_bd ws a4
  have hD1 : D.1 = th := by rw [hD]; rfl
  have hDo : ∀ p t, D.2.1 p t = decide (¬ nI p = a4 ∧ ¬ s_rnd A.1 p t = -9) := fun p t => by rw [hD]; rfl
  have hDg : ∀ p t, D.2.2 p t = s_gn A.1 p t := fun p t => by rw [hD]; rfl
  clear hD
  have hA : ∀ m : nc_Mem, nc_sF M m0 m → aM m M = A ∧ nc_fr_far A.1 M pl m := fun m hF => by
    refine ⟨?_, fun a c ha hc => (hF _ _ (by omega)).trans (hf0 a c ha hc)⟩
    rw [← h0]
    exact aM_fr2 (fun a k h1 h2 h3 => hF a k (by omega))
  intro r
  induction r with
  | zero =>
    intro N p T s b0 m hN hp hT s1 s2 b1 b2 hF hb
    obtain ⟨N, rfl⟩ : ∃ N', N = N' + 1 := ⟨N - 1, by omega⟩
    have hp' : p = ps := by omega
    subst hp'
    have ha := (hA m hF).1
    rw [e_V_0, Int.add_zero]
    have e0 : f_X8_seek (N + 1) M m (nI p) (nI T) (iI s) a4 = if iI s ≤ iI b0 then some m else nc_loop (fun _ _ => none) (B_X8_seek_24 M) 200 0 (nc_up m M 26 (iI s)) := by
      show B_X8_seek M (f_X8_seek N M) m (nI p) (nI T) (iI s) a4 = _
      unfold B_X8_seek
      simp only [nc_let_eq]
      rw [(M_ps ha).trans w4, if_pos rfl, hb]
    by_cases c : b0 < s
    · rw [if_pos c, if_pos c]
      obtain ⟨m', e1, f1, F1⟩ := M_leaf (M := M) (ps := p) (m := nc_up m M 26 (iI s)) ((nc_up_ne (by omega)).trans ((M_ps ha).trans w4)) w5
      refine ⟨m', ?_, fun a k h => ?_, ?_, ?_, fun i hi => ?_⟩
      · rw [e0, if_neg (fun z => absurd ((iI_le (by omega) (by omega)).mp z) (by omega))]
        exact e1
      · rw [F1 a k (by omega), nc_up_ne (by omega)]
        exact hF a k h
      · rw [F1 _ _ (by omega), nc_up_same]
      · funext i
        unfold nc_vB nc_pB
        by_cases c2 : i < p
        · rw [if_pos c2, if_pos c2, if_pos c2, f1 i c2, nc_up_na (by omega)]
        · rw [if_neg c2, if_neg c2]
      · rw [F1 _ _ (by omega), nc_up_na (by omega)]
    · rw [if_neg c, if_neg c]
      refine ⟨m, ?_, hF, hb, rfl, fun i hi => rfl⟩
      rw [e0, if_pos ((iI_le (by omega) (by omega)).mpr (by omega))]
  | succ r ih =>
    intro N p T s b0 m hN hp hT s1 s2 b1 b2 hF hb
    obtain ⟨N, rfl⟩ : ∃ N', N = N' + 1 := ⟨N - 1, by omega⟩
    have ha := (hA m hF).1
    have vb0 := e_V_b hbd r (p + 1) T (by omega)
    -- nobody's
    obtain ⟨m1, e1, F1, bb1, vB1, hs1⟩ := ih N (p + 1) T s b0 (nc_up m (M + 52) p (-9)) (by omega) (by omega) hT (by omega) (by omega) b1 b2 (fun a k h => (nc_up_na (by omega)).trans (hF a k h)) ((nc_up_na (by omega)).trans hb)
    generalize hbe : (if b0 < s + e_V D r (p + 1) T then s + e_V D r (p + 1) T else b0) = be at bb1
    have bbe : 0 ≤ be ∧ be ≤ 1000 := by
      rw [← hbe]
      split <;> omega
    have hsel : ∃ b m2, (0 ≤ b ∧ b ≤ 1000) ∧ m2 M 26 = iI b ∧ e_sel (e_cd D p T) (fun t => s + e_vl D r p T t) (fun t => nc_pB ps (p + 1) (fun i => if i = p then nI t else m (M + 52) i) (e_P D r (p + 1) (e_or T t))) D.1 be (nc_vB M ps m1) b (nc_vB M ps m2) ∧ nc_sF M m0 m2 ∧ (∀ i, i < p → m2 (M + 52) i = m (M + 52) i) ∧ nc_loop (fun _ _ => none) (B_X8_seek_76 (f_X8_seek N M) M (nI p) (nI T) (iI s) a4 p (fun mi6 => some (nc_up mi6 (M + 52) p (-9)))) 200 0 m1 = some (nc_up m2 (M + 52) p (-9)) := by
      by_cases cw : nI p = a4
      · refine ⟨be, m1, bbe, bb1, ⟨Int.le_refl _, fun j _ hc => ?_, Or.inl ⟨rfl, rfl⟩⟩, F1, fun i hi => (hs1 i (by omega)).trans (nc_up_ne (by omega)), ?_⟩
        · unfold e_cd at hc
          rw [hDo, decide_eq_false (fun z => z.1 cw)] at hc
          simp at hc
        · rw [show (200 : Nat) = 199 + 1 from rfl, nc_loop_s]
          unfold B_X8_seek_76
          rw [if_pos cw]
          split <;> rfl
      · obtain ⟨m2, ⟨b, i1, i2, i3, i4, i5⟩, e2⟩ := nc_forI (z := fun _ _ => none) (B := B_X8_seek_76 (f_X8_seek N M) M (nI p) (nI T) (iI s) a4 p (fun mi6 => some (nc_up mi6 (M + 52) p (-9)))) (s := 0) (n := 200) (x := m1) (fun t m2 => ∃ b, (0 ≤ b ∧ b ≤ 1000) ∧ m2 M 26 = iI b ∧ e_sel (e_cd D p T) (fun t => s + e_vl D r p T t) (fun t => nc_pB ps (p + 1) (fun i => if i = p then nI t else m (M + 52) i) (e_P D r (p + 1) (e_or T t))) t be (nc_vB M ps m1) b (nc_vB M ps m2) ∧ nc_sF M m0 m2 ∧ ∀ i, i < p → m2 (M + 52) i = m (M + 52) i) th (fun m2 => some (nc_up m2 (M + 52) p (-9))) (fun rc t m2 _ ht ⟨b, j1, j2, j3, j4, j5⟩ => by
            obtain ⟨ha2, hf2⟩ := hA m2 j4
            by_cases c : ((nI T >>> (nI t &&& 31)) &&& 1) = 0
            · by_cases c2 : s_rnd A.1 p t = -9
              · refine ⟨m2, ⟨b, j1, j2, e_sel_no j3 ?_, j4, j5⟩, ?_⟩
                · unfold e_cd
                  rw [hDo, decide_eq_false (fun z => z.2 c2)]
                  simp
                · unfold B_X8_seek_76
                  simp only [nc_let_eq]
                  rw [(M_th ha2).trans w6, if_neg (nI_ge ht (by omega)), if_neg cw, if_pos c, M_round ha2 hf2 ws (by omega) ht, nc_some_bind, if_pos c2, nI_1]
              · have hc : e_cd D p T t = true := by
                  unfold e_cd
                  rw [hDo, e_fr_p c, decide_eq_true ⟨cw, c2⟩]
                  rfl
                have F3 : nc_sF M m0 (nc_up m2 (M + 52) p (nI t)) := fun a k h => (nc_up_na (by omega)).trans (j4 a k h)
                obtain ⟨ha3, hf3⟩ := hA _ F3
                have gb := hbd p t (by omega) (by omega) (by rw [hDo]; exact decide_eq_true ⟨cw, c2⟩)
                rw [hDg] at gb
                have vb1 := e_V_b hbd r (p + 1) (e_or T t) (by omega)
                obtain ⟨m3, e3, F4, bb3, vB3, hs3⟩ := ih N (p + 1) (e_or T t) (s + s_gn A.1 p t) b (nc_up m2 (M + 52) p (nI t)) (by omega) (by omega) (e_or_lt hT (by omega)) (by omega) (by omega) j1.1 j1.2 F3 ((nc_up_na (by omega)).trans j2)
                have ev : s + s_gn A.1 p t + e_V D r (p + 1) (e_or T t) = s + e_vl D r p T t := by
                  unfold e_vl
                  rw [hDg]
                  omega
                rw [ev] at bb3 vB3
                have hv3 : nc_vB M ps m3 = if b < s + e_vl D r p T t then nc_pB ps (p + 1) (fun i => if i = p then nI t else m (M + 52) i) (e_P D r (p + 1) (e_or T t)) else nc_vB M ps m2 := by
                  rw [vB3]
                  by_cases cl : b < s + e_vl D r p T t
                  · rw [if_pos cl, if_pos cl]
                    refine nc_pB_cg (fun i hi => ?_) (fun i hi => rfl)
                    by_cases ci : i = p
                    · rw [if_pos ci, ci, nc_up_same]
                    · rw [if_neg ci, nc_up_ne (by omega)]
                      exact j5 i (by omega)
                  · rw [if_neg cl, if_neg cl]
                    exact nc_vB_fr (fun k => nc_up_na (by omega))
                refine ⟨m3, ⟨_, ?_, bb3, ?_, F4, fun i hi => ?_⟩, ?_⟩
                · have : e_vl D r p T t = s_gn A.1 p t + e_V D r (p + 1) (e_or T t) := by omega
                  split <;> omega
                · rw [hv3]
                  exact e_sel_go j3 hc
                · rw [hs3 i (by omega), nc_up_ne (by omega)]
                  exact j5 i hi
                · obtain ⟨-, -, -, -, -, -, ⟨w, hw, ew⟩, -⟩ := w11 t ht
                  have e4 : iI s + s_T A.1 t 6 - s_more A.1 p t = iI (s + s_gn A.1 p t) := by
                    unfold s_gn
                    rw [s_more_i, ew, s_cl_nI (by omega), iI_nat, iI_add, iI_sub, Int.add_sub_assoc]
                  unfold B_X8_seek_76
                  simp only [nc_let_eq]
                  rw [(M_th ha2).trans w6, if_neg (nI_ge ht (by omega)), if_neg cw, if_pos c, M_round ha2 hf2 ws (by omega) ht, nc_some_bind, if_neg c2, nc_at_nI (by omega) (by omega), M_more ha3 hf3 ws (by omega) ht c2, nc_some_bind, M_rT ha3 (by omega) (by omega), e4, nI_1, e_or_e hT (by omega), e3, nc_some_bind, nI_1]
            · refine ⟨m2, ⟨b, j1, j2, e_sel_no j3 ?_, j4, j5⟩, ?_⟩
              · unfold e_cd
                rw [e_fr_n c]
                simp
              · unfold B_X8_seek_76
                simp only [nc_let_eq]
                rw [(M_th ha2).trans w6, if_neg (nI_ge ht (by omega)), if_neg cw, if_neg c, nI_1]) (fun rc m2 ⟨b, j1, j2, j3, j4, j5⟩ => by
            unfold B_X8_seek_76
            rw [(M_th (hA m2 j4).1).trans w6, if_pos (nI_le (Nat.le_refl _) (by omega))]) (Nat.zero_le _) (by omega) ⟨be, bbe, bb1, ⟨Int.le_refl _, fun j hj => absurd hj (Nat.not_lt_zero _), Or.inl ⟨rfl, rfl⟩⟩, F1, fun i hi => (hs1 i (by omega)).trans (nc_up_ne (by omega))⟩
        exact ⟨b, m2, i1, i2, by rw [hD1]; exact i3, i4, i5, e2⟩
    obtain ⟨b, m2, i1, i2, i3, i4, i5, e2⟩ := hsel
    obtain ⟨f1, f2⟩ := e_fin (b0 := b0) (B0 := nc_vB M ps m) (payN := nc_pB ps (p + 1) (fun i => if i = p then -9 else m (M + 52) i) (e_P D r (p + 1) T)) hbe.symm (by
      rw [vB1]
      by_cases cl : b0 < s + e_V D r (p + 1) T
      · rw [if_pos cl, if_pos cl]
        refine nc_pB_cg (fun i hi => ?_) (fun i hi => rfl)
        by_cases ci : i = p
        · rw [if_pos ci, ci, nc_up_same]
        · rw [if_neg ci, nc_up_ne (by omega)]
      · rw [if_neg cl, if_neg cl]
        exact nc_vB_fr (fun k => nc_up_na (by omega))) i3
    refine ⟨nc_up m2 (M + 52) p (-9), ?_, fun a k h => (nc_up_na (by omega)).trans (i4 a k h), ?_, ?_, fun i hi => (nc_up_ne (by omega)).trans (i5 i hi)⟩
    · show B_X8_seek M (f_X8_seek N M) m (nI p) (nI T) (iI s) a4 = _
      unfold B_X8_seek
      simp only [nc_let_eq]
      rw [(M_ps ha).trans w4, if_neg (fun z => absurd ((nI_eq (by omega) (by omega)).mp z) (by omega)), nc_at_nI (by omega) (by omega), nI_1, e1, nc_some_bind]
      exact e2
    · rw [nc_up_na (by omega), i2, f1]
    · rw [nc_vB_fr (m := m2) (fun k => nc_up_na (by omega)), f2]
      by_cases cl : b0 < s + e_V D (r + 1) p T
      · rw [if_pos cl, if_pos cl]
        cases ec : e_c D r p T with
        | none => exact nc_pB_n (fun i => by rw [e_P_s, ec])
        | some t => exact nc_pB_n (fun i => by rw [e_P_s, ec])
      · rw [if_neg cl, if_neg cl]
end SEEK
