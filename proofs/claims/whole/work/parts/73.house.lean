-- houses
theorem s_wn_cg {S S' : nc_S} (h : s_w S' = s_w S) : s_wn S' = s_wn S := by
  funext a c
  unfold s_wn
  rw [h]
theorem s_D_cg {S S' : nc_S} (h : s_w S' = s_w S) : s_D S' = s_D S := by
  funext a c
  unfold s_D
  rw [s_wn_cg h]
theorem s_st_cg {S S' : nc_S} (h : s_w S' = s_w S) (pl g a f : Nat) : ∀ i, s_st S' pl g a f i = s_st S pl g a f i
  | 0 => rfl
  | i + 1 => by
    have hn : s_nxt S' = s_nxt S := by
      funext pl g h'
      unfold s_nxt
      rw [s_wn_cg h, s_D_cg h]
    rw [s_st, s_st, s_st_cg h pl g a f i, hn, s_wn_cg h]
theorem s_len_cg {S S' : nc_S} (h : s_w S' = s_w S) (pl g a f : Nat) : s_len S' pl g a f = s_len S pl g a f := by
  have : s_st S' pl g a f = s_st S pl g a f := funext (s_st_cg h pl g a f)
  unfold s_len s_i0
  rw [s_D_cg h, this]
/-- the same ways and the same who may: as soon -/
theorem s_soon_cg {S S' : nc_S} {pl ps t : Nat} {rule al : Int32} {w w' : nc_Wy} (h : s_w S' = s_w S) (hT : s_T S' = s_T S) (hw : ∀ p, p < ps → w' p = w p) (hm : ∀ p mn, p < ps → s_mind S' rule p t mn al = s_mind S rule p t mn al) : s_soon S' pl ps rule t al w' = s_soon S pl ps rule t al w := by
  have e0 : s_s0 S' t = s_s0 S t := by
    funext q
    unfold s_s0
    rw [hT]
  have e : s_sv S' pl ps rule t al w' = s_sv S pl ps rule t al w := by
    unfold s_sv
    rw [e0]
    refine pN_cg (by rw [s_E_1, s_E_1]) (fun p hp => ?_) _ 6
    rw [s_E_1] at hp
    rw [s_E_ln, s_E_ln, hw p hp, s_len_cg h]
    refine ⟨rfl, fun i _ => ?_⟩
    rw [s_E_x, s_E_x, s_E_m, s_E_m, s_E_l, s_E_l, hw p hp, s_st_cg h, hm p _ hp]
    exact ⟨rfl, rfl, rfl⟩
  unfold s_soon
  rw [e, hT]
def s_swap (S : nc_S) (p q : Nat) : nc_S := (s_pl S, s_ps S, s_th S, s_lw S, s_w S, (fun r k => if k < 2 ∧ r = p then s_P S q k else if k < 2 ∧ r = q then s_P S p k else s_P S r k), s_T S)
theorem s_swap2 {S : nc_S} {p q : Nat} (h : ¬ p = q) : s_swap (s_swap S p q) p q = S := by
  have : s_P (s_swap (s_swap S p q) p q) = s_P S := by
    funext r k
    show (if k < 2 ∧ r = p then (if k < 2 ∧ q = p then s_P S q k else if k < 2 ∧ q = q then s_P S p k else s_P S q k) else if k < 2 ∧ r = q then (if k < 2 ∧ p = p then s_P S q k else if k < 2 ∧ p = q then s_P S p k else s_P S p k) else (if k < 2 ∧ r = p then s_P S q k else if k < 2 ∧ r = q then s_P S p k else s_P S r k)) = s_P S r k
    by_cases c1 : k < 2 ∧ r = p
    · rw [if_pos c1, if_neg (fun z => h z.2.symm), if_pos ⟨c1.1, rfl⟩, c1.2]
    · rw [if_neg c1]
      by_cases c2 : k < 2 ∧ r = q
      · rw [if_pos c2, if_pos ⟨c2.1, rfl⟩, c2.2]
      · rw [if_neg c2, if_neg c1, if_neg c2]
  show (s_pl S, s_ps S, s_th S, s_lw S, s_w S, s_P (s_swap (s_swap S p q) p q), s_T S) = S
  rw [this]
theorem s_swap_wf {S : nc_S} {n pl ps th p q : Nat} (h : s_wf S n pl ps th) (hp : p < ps) (hq : q < ps) : s_wf (s_swap S p q) n pl ps th := by
  obtain ⟨w1, w2, w3, w4, w5, w6, w7, w8, w9, w10, w11⟩ := h
  refine ⟨w1, w2, w3, w4, w5, w6, w7, w8, w9, fun r hr => ?_, w11⟩
  have e : ∀ k, s_P (s_swap S p q) r k = if k < 2 ∧ r = p then s_P S q k else if k < 2 ∧ r = q then s_P S p k else s_P S r k := fun _ => rfl
  obtain ⟨a1, a2, a3, a4, a5, a6, a7⟩ := w10 r hr
  obtain ⟨b1, b2, -⟩ := w10 p hp
  obtain ⟨d1, d2, -⟩ := w10 q hq
  unfold s_okP
  rw [e, e, e, e, e, e, e]
  refine ⟨?_, ?_, by simpa using a3, by simpa using a4, by simpa using a5, by simpa using a6, by simpa using a7⟩
  · split
    · exact d1
    · split
      · exact b1
      · exact a1
  · split
    · exact d2
    · split
      · exact b2
      · exact a2
theorem s_lets_cg {S S' : nc_S} (hT : s_T S' = s_T S) (hP : ∀ r k, 2 ≤ k → s_P S' r k = s_P S r k) (rule : Int32) (p t : Nat) (mn gv : Int32) : s_lets S' rule p t mn gv = s_lets S rule p t mn gv := by
  unfold s_lets
  rw [hT, hP _ 3 (by omega), hP _ 3 (by omega), hP _ 3 (by omega)]
theorem s_mind_cg {S S' : nc_S} (hT : s_T S' = s_T S) (hP : ∀ r k, 2 ≤ k → s_P S' r k = s_P S r k) (rule : Int32) (p t : Nat) (mn al : Int32) : s_mind S' rule p t mn al = s_mind S rule p t mn al := by
  unfold s_mind
  rw [hT, hP _ 4 (by omega), s_lets_cg hT hP]
theorem s_sum_cg {S S' : nc_S} {pl ps th : Nat} {rule : Int32} {w w' : nc_Wy} (h : s_w S' = s_w S) (hT : s_T S' = s_T S) (hP : ∀ r k, 2 ≤ k → s_P S' r k = s_P S r k) (hw : ∀ p, p < ps → w' p = w p) : s_sum S' pl ps th rule w' = s_sum S pl ps th rule w := by
  unfold s_sum
  refine nc_fo_cg _ _ _ (fun j y _ _ => ?_)
  unfold s_smg
  rw [s_soon_cg h hT hw (fun p mn _ => s_mind_cg hT hP rule p j mn (-9))]
def s_wch (S : nc_S) (w : nc_Wy) (p h : Nat) : nc_Wy := fun q => if q = p then ((s_w0 S h).1, (s_w0 S h).2.1, (s_w0 S p).2.2) else w q
def s_wab (S : nc_S) (a b : Nat) : nc_Wy := s_wch S (s_wch S (s_w0 S) a b) b a
theorem s_wab_ok {S : nc_S} {n pl ps th a b : Nat} (ws : s_wf S n pl ps th) (ha : a < ps) (hb : b < ps) : s_wok pl ps (s_wab S a b) := by
  intro q hq
  have o1 := s_w0_ok ws a ha
  have o2 := s_w0_ok ws b hb
  have o3 := s_w0_ok ws q hq
  unfold s_wab s_wch
  by_cases c : q = b
  · simp only [c, if_true]
    exact ⟨o1.1, o1.2.1, o2.2.2⟩
  · by_cases c' : q = a
    · simp only [c', c, if_true]
      rw [if_neg (fun z => c (c'.trans z))]
      exact ⟨o2.1, o2.2.1, o1.2.2⟩
    · simp only [c, c', if_false]
      exact o3
theorem C_relead {S : nc_S} {n pl ps th p h X : Nat} {m : nc_Mem} {rule al : Int32} {w : nc_Wy} (cx : nc_CX S pl ps rule al w X m) (hl : nc_lst S (X + 1) m) (ws : s_wf S n pl ps th) (hp : p < ps) (hh : h < ps) : ∃ m', f_X2_leadFrom m X (nI p) (nI h) = some m' ∧ nc_CX S pl ps rule al (s_wch S w p h) X m' ∧ nc_lst S (X + 1) m' ∧ ∀ a k, ¬ (X + 59 ≤ a ∧ a < X + 77) → m' a k = m a k := by
  have h5 := ws.2.2.2.2.1
  obtain ⟨m', e, wc, F⟩ := C_leadFrom cx.1 hl ws hp hh
  refine ⟨m', e, ⟨?_, (F _ _ (by omega)).trans cx.2.1, (F _ _ (by omega)).trans cx.2.2.1, fun q hq => ?_⟩, fun a c ha hc => (F _ _ (by omega)).trans (hl a c ha hc), fun a k ha => F a k (by omega)⟩
  · rw [← cx.1]
    exact vC_fr (fun a k a1 a2 a3 => F a k (by omega))
  · unfold s_wch
    by_cases c : q = p
    · subst c
      simp only [if_true]
      exact wc
    · simp only [c, if_false]
      obtain ⟨k1, k2⟩ := cx.2.2.2 q hq
      refine ⟨(F _ _ (by omega)).trans k1, fun i hi => ?_⟩
      rw [F _ _ (by omega), F _ _ (by omega)]
      exact k2 i hi
theorem s_wab_back {S : nc_S} {a b : Nat} (h : ¬ a = b) : s_wch S (s_wch S (s_wab S a b) a a) b b = s_w0 S := by
  funext q
  unfold s_wab s_wch
  by_cases c : q = b
  · simp only [c, if_true]
  · by_cases c' : q = a
    · subst c'
      simp only [c, if_true, if_false]
    · simp only [c, c', if_false]
theorem M_change {m : nc_Mem} {M p q : Nat} {A : nc_A} (h : aM m M = A) (hp : p < 6) (hq : q < 6) (hpq : ¬ p = q) : ∃ m', f_X8_change m M (nI p) (nI q) = some m' ∧ aM m' M = (s_swap A.1 p q, A.2) ∧ nc_frM M m m' := by
  have e : f_X8_change m M (nI p) (nI q) = some (nc_up (nc_up (nc_up (nc_up m (M + 12 + 1 + p) 0 (s_P A.1 q 0)) (M + 12 + 1 + q) 0 (s_P A.1 p 0)) (M + 12 + 1 + p) 1 (s_P A.1 q 1)) (M + 12 + 1 + q) 1 (s_P A.1 p 1)) := by
    have st : ∀ (rc : Int32 → nc_Mem → Option nc_Mem) (k : Nat) (m1 : nc_Mem), k < 2 → B_X8_change_2 M (nI p) (nI q) rc (nI k) m1 = rc (nI (k + 1)) (nc_up (nc_up m1 (M + 12 + 1 + p) k (m1 (M + 12 + 1 + q) k)) (M + 12 + 1 + q) k (m1 (M + 12 + 1 + p) k)) := by
      intro rc k m1 hk
      unfold B_X8_change_2
      simp only [nc_let_eq]
      rw [if_neg (show ¬ 2 ≤ nI k from nI_ge (b := 2) hk (by omega)), nc_at_nI hp (by omega), nc_at_nI (by omega) (by omega), nc_at_nI hq (by omega), nI_1]
    have en : ∀ (rc : Int32 → nc_Mem → Option nc_Mem) (m1 : nc_Mem), B_X8_change_2 M (nI p) (nI q) rc (nI (1 + 1)) m1 = some m1 := by
      intro rc m1
      unfold B_X8_change_2
      rw [if_pos (by decide)]
    unfold f_X8_change
    show nc_loop (fun _ _ => none) (B_X8_change_2 M (nI p) (nI q)) (197 + 1 + 1 + 1) (nI 0) m = _
    rw [nc_loop_s, st _ 0 m (by omega), nc_loop_s, st _ 1 _ (by omega), nc_loop_s, en, M_rP h hp (by omega), M_rP h hq (by omega)]
    rw [nc_up_ne (show ¬ (M + 12 + 1 + p = M + 12 + 1 + q ∧ 1 = 0) by omega), nc_up_ne (show ¬ (M + 12 + 1 + p = M + 12 + 1 + p ∧ 1 = 0) by omega), nc_up_ne (show ¬ (M + 12 + 1 + q = M + 12 + 1 + q ∧ 1 = 0) by omega), nc_up_ne (show ¬ (M + 12 + 1 + q = M + 12 + 1 + p ∧ 1 = 0) by omega), M_rP h hp (by omega), M_rP h hq (by omega)]
  refine ⟨_, e, ?_, ?_⟩
  · rw [aM_uP hq (by omega), aM_uP hp (by omega), aM_uP hq (by omega), aM_uP hp (by omega), h]
    refine congrArg (fun S : nc_S => (S, A.2)) ?_
    unfold s_setP s_swap
    simp only [Prod.mk.injEq, true_and, and_true]
    funext r k
    grind
  · exact nc_frM_u (nc_frM_u (nc_frM_u (nc_frM_u nc_frM_r (by omega)) (by omega)) (by omega)) (by omega)
