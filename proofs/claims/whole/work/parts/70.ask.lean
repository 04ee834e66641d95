-- bars, why, fewest, beside
theorem pP_cg {E E' : nc_Ev} {p : Nat} (h1 : E.2.1 p = E'.2.1 p) (h2 : ∀ i, i < E.2.1 p → E.2.2.1 p i = E'.2.2.1 p i ∧ E.2.2.2.1 p i = E'.2.2.2.1 p i ∧ E.2.2.2.2 p i = E'.2.2.2.2 p i) (s : Nat → Nat) : pP E p s = pP E' p s := by
  rw [pP_e, pP_e, ← h1]
  rw [nc_fo_cg (g := pG E p) (g' := pG E' p) _ _ _ (fun i y _ hi => by
    obtain ⟨a, b, c⟩ := h2 i (by omega)
    rw [pG_e, pG_e, a, b, c])]
theorem pN_cg {E E' : nc_Ev} (h0 : E.1 = E'.1) (h : ∀ p, p < E.1 → E.2.1 p = E'.2.1 p ∧ ∀ i, i < E.2.1 p → E.2.2.1 p i = E'.2.2.1 p i ∧ E.2.2.2.1 p i = E'.2.2.2.1 p i ∧ E.2.2.2.2 p i = E'.2.2.2.2 p i) (s : Nat → Nat) : ∀ r, pN E s r = pN E' s r
  | 0 => rfl
  | r + 1 => by
    rw [pN_s, pN_s, pN_cg h0 h s r, pR_e, pR_e, ← h0]
    exact nc_fo_cg _ _ _ (fun p y _ hp => pP_cg (h p (by omega)).1 (h p (by omega)).2 y)
/-- one who can't carry it need not be let -/
theorem s_soon_nofit {S : nc_S} {pl ps t p : Nat} {rule : Int32} {w : nc_Wy} (hps : ps ≤ 6) (hp : p < ps) (hf : s_P S p 4 < s_T S t 4) : s_soon S pl ps rule t (nI p) w = s_soon S pl ps rule t (-9) w := by
  have e : s_sv S pl ps rule t (nI p) w = s_sv S pl ps rule t (-9) w := by
    unfold s_sv
    refine pN_cg (by rw [s_E_1, s_E_1]) (fun q hq => ?_) _ 6
    rw [s_E_1] at hq
    refine ⟨by rw [s_E_ln, s_E_ln], fun i _ => ⟨by rw [s_E_x, s_E_x], by rw [s_E_m, s_E_m], ?_⟩⟩
    rw [s_E_l, s_E_l]
    have : s_mind S rule q t (nI (s_st S pl (w q).2.1 (w q).1 (w q).2.2 i).2) (nI p) = s_mind S rule q t (nI (s_st S pl (w q).2.1 (w q).1 (w q).2.2 i).2) (-9) := by
      unfold s_mind
      by_cases c : q = p
      · subst c
        rw [if_pos hf, if_pos hf]
      · rw [if_neg (fun z => c ((nI_eq (by omega) (by omega)).mp z)), if_neg (nI_ne9 (by omega))]
    rw [this]
  unfold s_soon
  rw [e]
def s_smg (S : nc_S) (pl ps : Nat) (rule : Int32) (w : nc_Wy) (j : Nat) (x : Int32) : Int32 := if s_soon S pl ps rule j (-9) w = -9 then x + 999 else x + s_soon S pl ps rule j (-9) w
def s_sum (S : nc_S) (pl ps th : Nat) (rule : Int32) (w : nc_Wy) : Int32 := nc_fo (s_smg S pl ps rule w) th 0 0
section ASK2
variable {S : nc_S} {n pl ps th t : Nat} {X M : Nat} {m : nc_Mem} {rule : Int32} {w : nc_Wy}
theorem C_sum (cx : nc_CX S pl ps rule (-9) w X m) (ws : s_wf S n pl ps th) (ok : s_wok pl ps w) : ∃ m', f_X2_sumOfSoonest m X = some (m', s_sum S pl ps th rule w) ∧ nc_CX S pl ps rule (-9) w X m' ∧ ∀ a k, ¬ (a = X + 57 ∧ k < 7) → m' a k = m a k := by
  have h7 := ws.2.2.2.2.2.2.1
  exact C_each (z := fun _ _ _ => none) (B := B_X2_sumOfSoonest_4 X) (s_smg S pl ps rule w) (fun x m => some (m, x)) cx ws ok (fun rc x j m1 m2 hj c1 e c2 => by
    unfold B_X2_sumOfSoonest_4 s_smg
    simp only [nc_let_eq]
    rw [nc_CX_th c1 ws, if_neg (nI_ge hj (by omega)), e]
    simp only [nc_some_bind]
    rw [nI_1]
    split <;> rfl) (fun rc x m1 c1 => by
    unfold B_X2_sumOfSoonest_4
    rw [nc_CX_th c1 ws, if_pos (nI_le (Nat.le_refl _) (by omega))]) 0
theorem M_sum {A : nc_A} (h : aM m M = A) (ws : s_wf A.1 n pl ps th) (hr : nc_ok rule 5) : ∃ m', f_X8_sumBy m M rule = some (m', s_sum A.1 pl ps th rule (s_w0 A.1)) ∧ ∀ a k, ¬ (M + 28 ≤ a ∧ a < M + 51) → m' a k = m a k := by
  have h7 := ws.2.2.2.2.2.2.1
  obtain ⟨m1, e1, mx, -, F1⟩ := M_ways h ws
  obtain ⟨m2, e2, -, F2⟩ := M_each (z := fun _ _ _ => none) (B := B_X8_sumBy_8 M rule) (al := -9) (s_smg A.1 pl ps rule (s_w0 A.1)) (fun x m => some (m, x)) mx ws (s_w0_ok ws) hr (fun rc x j m1 m2 hj c1 e c2 _ => by
    unfold B_X8_sumBy_8 s_smg
    simp only [nc_let_eq]
    rw [nc_MY_th c1 ws, if_neg (nI_ge hj (by omega)), e]
    simp only [nc_some_bind]
    rw [nI_1]
    split <;> rfl) (fun rc x m1 c1 => by
    unfold B_X8_sumBy_8
    rw [nc_MY_th c1 ws, if_pos (nI_le (Nat.le_refl _) (by omega))]) 0
  refine ⟨m2, ?_, fun a k ha => (F2 a k (by omega)).trans (F1 a k (by omega))⟩
  unfold f_X8_sumBy
  rw [e1]
  exact e2
/-- whether somebody who may comes by -/
def s_cby (S : nc_S) (pl ps : Nat) (rule : Int32) (t : Nat) (w : nc_Wy) (q p : Nat) : Prop := ∃ i, i < s_len S pl (w p).2.1 (w p).1 (w p).2.2 ∧ (s_st S pl (w p).2.1 (w p).1 (w p).2.2 i).1 = q ∧ s_mind S rule p t (nI (s_st S pl (w p).2.1 (w p).1 (w p).2.2 i).2) (-9) = 1
theorem C_index {o len q : Nat} {st : Nat → Nat × Nat} (hw : nc_wC m o len st) (hl : len ≤ 7) (hx : ∀ i, i < len → (st i).1 < 7) (hq : q < 7) : ((∀ i, i < len → ¬ (st i).1 = q) → f_X6_indexAt m o (nI q) = some (-1)) ∧ ∀ i, i < len → (st i).1 = q → (∀ j, j < i → ¬ (st j).1 = q) → f_X6_indexAt m o (nI q) = some (nI i) := by
  have hs : ∀ (rc : Int32 → Option Int32) j, j < len → ¬ (st j).1 = q → B_X6_indexAt_2 m o (nI q) rc (nI j) = rc (nI (j + 1)) := fun rc j hj hne => by
    have := hx j hj
    unfold B_X6_indexAt_2
    simp only [nc_let_eq]
    rw [hw.1, if_neg (nI_ge hj (by omega)), nc_at_nI (by omega) (by omega), (hw.2 j hj).1, if_neg (fun z => hne ((nI_eq (by omega) (by omega)).mp z)), nI_1]
  refine ⟨fun h => ?_, fun i hi e hf => ?_⟩
  · unfold f_X6_indexAt
    exact nc_for1 _ len (fun rc j hj => hs rc j hj (h j hj)) (fun rc => by
      unfold B_X6_indexAt_2
      rw [hw.1, if_pos (nI_le (Nat.le_refl _) (by omega))]) (by omega)
  · unfold f_X6_indexAt
    exact nc_for1 _ i (fun rc j hj => hs rc j (by omega) (hf j hj)) (fun rc => by
      unfold B_X6_indexAt_2
      rw [hw.1, if_neg (nI_ge hi (by omega)), nc_at_nI (by omega) (by omega), (hw.2 i hi).1, e, if_pos rfl]) (by omega)
theorem C_by {q : Nat} (cx : nc_CX S pl ps rule (-9) w X m) (ws : s_wf S n pl ps th) (ok : s_wok pl ps w) (ht : t < th) (hq : q < 7) : ((∃ p, p < ps ∧ s_cby S pl ps rule t w q p) → f_X2_somebodyComesBy m X (nI t) (nI q) = some 1) ∧ ((¬ ∃ p, p < ps ∧ s_cby S pl ps rule t w q p) → f_X2_somebodyComesBy m X (nI t) (nI q) = some 0) := by
  have h5 := ws.2.2.2.2.1
  have h3 := ws.2.2.1
  have hps : m (X + 1) 5 = nI ps := (congrArg s_ps cx.1).trans ws.2.2.2.1
  have step : ∀ (rc : Int32 → Option Int32) p, p < ps → (¬ s_cby S pl ps rule t w q p → B_X2_somebodyComesBy_2 m X (nI t) (nI q) rc (nI p) = rc (nI (p + 1))) ∧ (s_cby S pl ps rule t w q p → B_X2_somebodyComesBy_2 m X (nI t) (nI q) rc (nI p) = some 1) := by
    intro rc p hp
    have lenle := s_len_le (f := (w p).2.2) (g := (w p).2.1) (s_wf_ww ws) h3 (ok p hp).1
    have hwc := cx.2.2.2 p hp
    have hidx := C_index (q := q) hwc (by omega) (fun i hi => by have := (s_E_mn ws ok hp hi).1; omega) hq
    have inj := fun {i j : Nat} hi hj e => s_way_inj (S := S) (pl := pl) (g := (w p).2.1) (a := (w p).1) (f := (w p).2.2) (i := i) (j := j) (s_wf_ww ws) h3 (ok p hp).1 hi hj e
    have uni : ∀ i, i < s_len S pl (w p).2.1 (w p).1 (w p).2.2 → (s_st S pl (w p).2.1 (w p).1 (w p).2.2 i).1 = q → f_X6_indexAt m (X + 59 + 3 * p) (nI q) = some (nI i) := fun i hi e => hidx.2 i hi e (fun j hj e' => by
      have := inj (i := i) (j := j) hi (by omega) (e.trans e'.symm)
      omega)
    have body : ∀ i, i < s_len S pl (w p).2.1 (w p).1 (w p).2.2 → (s_st S pl (w p).2.1 (w p).1 (w p).2.2 i).1 = q → B_X2_somebodyComesBy_2 m X (nI t) (nI q) rc (nI p) = if s_mind S rule p t (nI (s_st S pl (w p).2.1 (w p).1 (w p).2.2 i).2) (-9) = 0 then rc (nI (p + 1)) else some 1 := by
      intro i hi e
      have g2 := (s_E_mn ws ok hp hi).2
      unfold B_X2_somebodyComesBy_2
      simp only [nc_let_eq]
      rw [hps, if_neg (nI_ge hp (by omega)), nc_at_nI (by omega) (by omega), uni i hi e]
      simp only [nc_some_bind]
      rw [if_neg (nI_pos (by omega)), nc_at_nI (by omega) (by omega), (hwc.2 i hi).2, C_mind cx ws hp ht (N := 10000) ⟨_, g2, rfl⟩ (by omega), nI_1]
      simp only [nc_some_bind]
    refine ⟨fun hno => ?_, fun ⟨i, hi, e, hm⟩ => ?_⟩
    · by_cases c : ∃ i, i < s_len S pl (w p).2.1 (w p).1 (w p).2.2 ∧ (s_st S pl (w p).2.1 (w p).1 (w p).2.2 i).1 = q
      · obtain ⟨i, hi, e⟩ := c
        rw [body i hi e, if_pos ((s_mind_01 _ _ _ _ _ _).resolve_right (fun z => hno ⟨i, hi, e, z⟩))]
      · have := hidx.1 (fun i hi e => c ⟨i, hi, e⟩)
        unfold B_X2_somebodyComesBy_2
        simp only [nc_let_eq]
        rw [hps, if_neg (nI_ge hp (by omega)), nc_at_nI (by omega) (by omega), this, nI_1]
        rfl
    · rw [body i hi e, if_neg (by rw [hm]; decide)]
  refine ⟨fun ⟨p, hp, hc⟩ => ?_, fun hno => ?_⟩
  · unfold f_X2_somebodyComesBy
    exact nc_forE0 (ok := fun p => ¬ s_cby S pl ps rule t w q p) (th := ps) (fun rc j hj h => (step rc j hj).1 h) (fun rc j hj h => (step rc j hj).2 (Classical.byContradiction h)) (by omega) (fun h => h p hp hc)
  · unfold f_X2_somebodyComesBy
    exact nc_forE1 (ok := fun p => ¬ s_cby S pl ps rule t w q p) (th := ps) (fun rc j hj h => (step rc j hj).1 h) (fun rc => by
      unfold B_X2_somebodyComesBy_2
      rw [hps, if_pos (nI_le (Nat.le_refl _) (by omega))]) (by omega) (fun j hj hc => hno ⟨j, hj, hc⟩)
theorem M_by {q : Nat} (mx : nc_MY S pl ps w M m) (ws : s_wf S n pl ps th) (ok : s_wok pl ps w) (ht : t < th) (hq : q < 7) : ((∃ p, p < ps ∧ s_cby S pl ps (s_lw S) t w q p) → f_X8_isComeBy m M (nI t) (nI q) = some 1) ∧ ((¬ ∃ p, p < ps ∧ s_cby S pl ps (s_lw S) t w q p) → f_X8_isComeBy m M (nI t) (nI q) = some 0) := by
  have h5 := ws.2.2.2.2.1
  have h3 := ws.2.2.1
  have hps : m M 7 = nI ps := (congrArg s_ps mx.1).trans ws.2.2.2.1
  have step : ∀ (rc : Int32 → Option Int32) p, p < ps → (¬ s_cby S pl ps (s_lw S) t w q p → B_X8_isComeBy_2 m M (nI t) (nI q) rc (nI p) = rc (nI (p + 1))) ∧ (s_cby S pl ps (s_lw S) t w q p → B_X8_isComeBy_2 m M (nI t) (nI q) rc (nI p) = some 1) := by
    intro rc p hp
    have lenle := s_len_le (f := (w p).2.2) (g := (w p).2.1) (s_wf_ww ws) h3 (ok p hp).1
    have hwc := mx.2 p hp
    have e0 : B_X8_isComeBy_2 m M (nI t) (nI q) rc (nI p) = nc_loop (fun _ => none) (B_X8_isComeBy_13 m M (nI t) (nI q) (nI p) rc) 200 0 := by
      unfold B_X8_isComeBy_2
      rw [hps, if_neg (nI_ge hp (by omega))]
    have body : ∀ (rc5 : Int32 → Option Int32) i, i < s_len S pl (w p).2.1 (w p).1 (w p).2.2 → B_X8_isComeBy_13 m M (nI t) (nI q) (nI p) rc rc5 (nI i) = if (s_st S pl (w p).2.1 (w p).1 (w p).2.2 i).1 = q then (if s_mind S (s_lw S) p t (nI (s_st S pl (w p).2.1 (w p).1 (w p).2.2 i).2) (-9) = 0 then rc5 (nI (i + 1)) else some 1) else rc5 (nI (i + 1)) := by
      intro rc5 i hi
      have g1 := (s_E_mn ws ok hp hi).1
      unfold B_X8_isComeBy_13
      simp only [nc_let_eq]
      rw [nc_at_nI (by omega) (by omega), hwc.1, if_neg (nI_ge hi (by omega)), nc_at_nI (by omega) (by omega), (hwc.2 i hi).1, (hwc.2 i hi).2, nc_MY_lw mx, M_mind' mx.1 ws hp ht ws.2.2.2.2.2.2.2.1, nI_1]
      simp only [nc_some_bind]
      by_cases c : (s_st S pl (w p).2.1 (w p).1 (w p).2.2 i).1 = q
      · rw [if_pos (congrArg nI c), if_pos c]
      · rw [if_neg (fun z => c ((nI_eq (by omega) (by omega)).mp z)), if_neg c]
    have go : ∀ (rc5 : Int32 → Option Int32) i, i < s_len S pl (w p).2.1 (w p).1 (w p).2.2 → ¬ ((s_st S pl (w p).2.1 (w p).1 (w p).2.2 i).1 = q ∧ s_mind S (s_lw S) p t (nI (s_st S pl (w p).2.1 (w p).1 (w p).2.2 i).2) (-9) = 1) → B_X8_isComeBy_13 m M (nI t) (nI q) (nI p) rc rc5 (nI i) = rc5 (nI (i + 1)) := by
      intro rc5 i hi hno
      rw [body rc5 i hi]
      by_cases c : (s_st S pl (w p).2.1 (w p).1 (w p).2.2 i).1 = q
      · rw [if_pos c, if_pos ((s_mind_01 _ _ _ _ _ _).resolve_right (fun z => hno ⟨c, z⟩))]
      · rw [if_neg c]
    refine ⟨fun hno => ?_, fun ⟨i, hi, e, hm⟩ => ?_⟩
    · rw [e0]
      exact nc_for1 _ (s_len S pl (w p).2.1 (w p).1 (w p).2.2) (fun rc5 i hi => go rc5 i hi (fun z => hno ⟨i, hi, z.1, z.2⟩)) (fun rc5 => by
        unfold B_X8_isComeBy_13
        simp only [nc_let_eq]
        rw [nc_at_nI (by omega) (by omega), hwc.1, if_pos (nI_le (Nat.le_refl _) (by omega)), nI_1]) (by omega)
    · rw [e0]
      exact nc_forE0 (ok := fun i => ¬ ((s_st S pl (w p).2.1 (w p).1 (w p).2.2 i).1 = q ∧ s_mind S (s_lw S) p t (nI (s_st S pl (w p).2.1 (w p).1 (w p).2.2 i).2) (-9) = 1)) (th := s_len S pl (w p).2.1 (w p).1 (w p).2.2) (fun rc5 i hi h => go rc5 i hi h) (fun rc5 i hi h => by
        have h' := Classical.byContradiction h
        rw [body rc5 i hi, if_pos h'.1, if_neg (by rw [h'.2]; decide)]) (by omega) (fun h => h i hi ⟨e, hm⟩)
  refine ⟨fun ⟨p, hp, hc⟩ => ?_, fun hno => ?_⟩
  · unfold f_X8_isComeBy
    exact nc_forE0 (ok := fun p => ¬ s_cby S pl ps (s_lw S) t w q p) (th := ps) (fun rc j hj h => (step rc j hj).1 h) (fun rc j hj h => (step rc j hj).2 (Classical.byContradiction h)) (by omega) (fun h => h p hp hc)
  · unfold f_X8_isComeBy
    exact nc_forE1 (ok := fun p => ¬ s_cby S pl ps (s_lw S) t w q p) (th := ps) (fun rc j hj h => (step rc j hj).1 h) (fun rc => by
      unfold B_X8_isComeBy_2
      rw [hps, if_pos (nI_le (Nat.le_refl _) (by omega))]) (by omega) (fun j hj hc => hno ⟨j, hj, hc⟩)
end ASK2
section ASK3
variable {n : Nat} {A : nc_A} {X M : Nat}
theorem sim_beside (wf : nc_WF n A) : nc_SIM n A (nc_lst A.1 (X + 1)) X M (fun mi => f_X7_beside mi X) (fun mi => f_X8_beside mi M) := by
  obtain ⟨⟨pl, ps, th, ws⟩, wl, wr⟩ := id wf
  obtain ⟨w1, w2, w3, w4, w5, w6, w7, w8, w9⟩ := id ws
  refine nc_SIM_ob wf (s_sum A.1 pl ps th (s_lw A.1) (s_w0 A.1) - s_sum A.1 pl ps th 3 (s_w0 A.1)) (fun mi h hl => ?_) (fun mi h => ?_)
  · obtain ⟨m1, e1, cx, -, F1⟩ := C_recall (C_v h) hl ws
    obtain ⟨m2, e2, c2, F2⟩ := C_sum cx ws (s_w0_ok ws)
    have c3 : nc_CX A.1 pl ps 3 (-9) (s_w0 A.1) X (nc_up m2 (X + 55) 5 3) := by
      obtain ⟨a1, a2, a3, a4⟩ := c2
      refine ⟨?_, nc_up_same, (nc_up_ne (by omega)).trans a3, fun p hp => ⟨(nc_up_na (by omega)).trans (a4 p hp).1, fun i hi => ⟨(nc_up_na (by omega)).trans ((a4 p hp).2 i hi).1, (nc_up_na (by omega)).trans ((a4 p hp).2 i hi).2⟩⟩⟩
      rw [← a1]
      exact vC_fr (fun a k h1 h2 h3 => nc_up_na (by omega))
    obtain ⟨m3, e3, -, F3⟩ := C_sum c3 ws (s_w0_ok ws)
    refine ⟨m3, ?_, fun a k ha => ?_⟩
    · show f_X7_beside mi X = _
      unfold f_X7_beside
      rw [e1]
      simp only [nc_some_bind, nc_let_eq]
      rw [e2]
      simp only [nc_some_bind]
      rw [e3]
      rfl
    · rw [F3 a k (by omega), nc_up_na (by omega), F2 a k (by omega), F1 a k (by omega)]
  · obtain ⟨m1, e1, F1⟩ := M_sum (rule := s_lw A.1) h ws w8
    have h1 : aM m1 M = A := by
      rw [← h]
      exact aM_fr (fun a k a1 a2 => F1 a k (by omega))
    obtain ⟨m2, e2, F2⟩ := M_sum (rule := 3) h1 ws ⟨3, by omega, rfl⟩
    refine ⟨m2, ?_, fun a k ha => (F2 a k (by omega)).trans (F1 a k (by omega))⟩
    show f_X8_beside mi M = _
    unfold f_X8_beside
    rw [M_lw h, e1]
    simp only [nc_some_bind]
    rw [e2]
    rfl
end ASK3
