-- what is asked of the mind
theorem nc_SIM_ob {n : Nat} {A : nc_A} {LS : nc_Mem → Prop} {X M : Nat} {g1 g2 : nc_Mem → Option (nc_Mem × Int32)} (wf : nc_WF n A) (r : Int32) (h1 : ∀ mi, aC mi X = A → LS mi → ∃ m', g1 mi = some (m', r) ∧ ∀ a k, ¬ (X + 55 ≤ a ∧ a < X + 80) → m' a k = mi a k) (h2 : ∀ mi, aM mi M = A → ∃ m', g2 mi = some (m', r) ∧ ∀ a k, ¬ (M + 26 ≤ a ∧ a < M + 54) → m' a k = mi a k) : nc_SIM n A LS X M g1 g2 := by
  refine ⟨r, A, nc_WF_mono wf (by omega), fun mi h hl => ?_, fun mi h => ?_, rfl⟩
  · obtain ⟨m', e, hF⟩ := h1 mi h hl
    refine ⟨m', e, ?_, fun a k hc => hF a k (by omega)⟩
    rw [← h]
    exact aC_fr (fun a k a1 a2 a3 a4 a5 => hF a k (by omega))
  · obtain ⟨m', e, hF⟩ := h2 mi h
    refine ⟨m', e, ?_, fun a k hc => hF a k (by omega)⟩
    rw [← h]
    exact aM_fr (fun a k a1 a2 => hF a k (by omega))
def s_w0 (S : nc_S) : nc_Wy := fun p => (s_cl (s_P S p 0), s_cl (s_P S p 1), s_cl (s_P S p 2))
theorem s_w0_ok {S : nc_S} {n pl ps th : Nat} (ws : s_wf S n pl ps th) : s_wok pl ps (s_w0 S) := by
  intro p hp
  obtain ⟨⟨a, ha, ea⟩, ⟨g, hg, eg⟩, ⟨f, hf, ef⟩, -⟩ := ws.2.2.2.2.2.2.2.2.2.1 p hp
  have h3 := ws.2.2.1
  unfold s_w0
  simp only [ea, eg, ef]
  rw [s_cl_nI (by omega), s_cl_nI (by omega), s_cl_nI (by omega)]
  exact ⟨ha, hg, hf⟩
section MINDS
variable {S : nc_S} {n pl ps th t : Nat} {X : Nat} {m : nc_Mem}
theorem nc_tw_of (hv : vC m (X + 1) = S) (hl : nc_lst S (X + 1) m) (ws : s_wf S n pl ps th) : nc_tw S pl (X + 1) m := by
  refine ⟨(congrArg s_pl hv).trans ws.1, fun a c ha hc => (vC_w ha hc).trans ?_, hl⟩
  rw [hv]
  exact s_wn_e (fun a c ha hc => (s_wf_ww ws a c ha hc).1) ha hc
theorem C_leadFrom {p h : Nat} (hv : vC m (X + 1) = S) (hl : nc_lst S (X + 1) m) (ws : s_wf S n pl ps th) (hp : p < ps) (hh : h < ps) : ∃ m', f_X2_leadFrom m X (nI p) (nI h) = some m' ∧ nc_wC m' (X + 59 + 3 * p) (s_len S pl (s_cl (s_P S h 1)) (s_cl (s_P S h 0)) (s_cl (s_P S p 2))) (s_st S pl (s_cl (s_P S h 1)) (s_cl (s_P S h 0)) (s_cl (s_P S p 2))) ∧ ∀ x k, ¬ (X + 59 + 3 * p ≤ x ∧ x < X + 59 + 3 * p + 3) → m' x k = m x k := by
  obtain ⟨⟨a, ha, ea⟩, ⟨g, hg, eg⟩, -⟩ := ws.2.2.2.2.2.2.2.2.2.1 h hh
  obtain ⟨-, -, ⟨f, hf, ef⟩, -⟩ := ws.2.2.2.2.2.2.2.2.2.1 p hp
  have h3 := ws.2.2.1
  have h5 := ws.2.2.2.2.1
  have rP : ∀ q k, q < 6 → k < 7 → m (X + 1 + 5 + q) k = s_P S q k := fun q k hq hk => (vC_P hq hk).trans (by rw [hv])
  obtain ⟨m', e', w', F'⟩ := C_lead (o := X + 59 + 3 * p) (a := a) (g := g) (f := f) (nc_tw_of hv hl ws) (s_wf_ww ws) h3 ha hg (by omega)
  refine ⟨m', ?_, ?_, fun x k hx => F' x k (by omega)⟩
  · unfold f_X2_leadFrom
    rw [nc_at_nI (by omega) (by omega), nc_at_nI (by omega) (by omega), rP h 0 (by omega) (by omega), rP h 1 (by omega) (by omega), rP p 2 (by omega) (by omega), ea, eg, ef, e']
    rfl
  · rw [ea, eg, ef, s_cl_nI (by omega), s_cl_nI (by omega), s_cl_nI (by omega)]
    exact w'
theorem C_recall (hv : vC m (X + 1) = S) (hl : nc_lst S (X + 1) m) (ws : s_wf S n pl ps th) : ∃ m', f_X2_recall m X = some m' ∧ nc_CX S pl ps (s_lw S) (-9) (s_w0 S) X m' ∧ nc_lst S (X + 1) m' ∧ ∀ a k, ¬ (X + 55 ≤ a ∧ a < X + 77) → m' a k = m a k := by
  have h5 := ws.2.2.2.2.1
  obtain ⟨m', ⟨i1, i2, i3, i4⟩, e⟩ := nc_forI (z := fun _ _ => none) (B := B_X2_recall_19 X) (s := 0) (n := 200) (x := nc_up (nc_up m (X + 55) 5 (m (X + 1) 7)) (X + 55) 6 (-9)) (fun q m1 => (∀ p, p < q → nc_wC m1 (X + 59 + 3 * p) (s_len S pl (s_w0 S p).2.1 (s_w0 S p).1 (s_w0 S p).2.2) (s_st S pl (s_w0 S p).2.1 (s_w0 S p).1 (s_w0 S p).2.2)) ∧ m1 (X + 55) 5 = s_lw S ∧ m1 (X + 55) 6 = -9 ∧ ∀ a k, ¬ (X + 55 ≤ a ∧ a < X + 77) → m1 a k = m a k) ps some (fun rc p m1 _ hp ⟨j1, j2, j3, j4⟩ => by
      have hv1 : vC m1 (X + 1) = S := by
        rw [← hv]
        exact vC_fr (fun a k a1 a2 a3 => j4 a k (by omega))
      have hl1 : nc_lst S (X + 1) m1 := fun a c ha hc => (j4 _ _ (by omega)).trans (hl a c ha hc)
      obtain ⟨m2, e2, w2, F2⟩ := C_leadFrom hv1 hl1 ws hp hp
      refine ⟨m2, ⟨fun q hq => ?_, (F2 _ _ (by omega)).trans j2, (F2 _ _ (by omega)).trans j3, fun a k ha => (F2 _ _ (by omega)).trans (j4 a k ha)⟩, ?_⟩
      · by_cases c : q = p
        · subst c
          exact w2
        · obtain ⟨k1, k2⟩ := j1 q (by omega)
          refine ⟨(F2 _ _ (by omega)).trans k1, fun i hi => ?_⟩
          rw [F2 _ _ (by omega), F2 _ _ (by omega)]
          exact k2 i hi
      · unfold B_X2_recall_19
        simp only [nc_let_eq]
        rw [show m1 (X + 1) 5 = nI ps from (congrArg s_ps hv1).trans ws.2.2.2.1, if_neg (nI_ge hp (by omega)), e2]
        simp only [nc_some_bind]
        rw [nI_1]) (fun rc m1 ⟨j1, j2, j3, j4⟩ => by
      have hv1 : vC m1 (X + 1) = S := by
        rw [← hv]
        exact vC_fr (fun a k a1 a2 a3 => j4 a k (by omega))
      unfold B_X2_recall_19
      rw [show m1 (X + 1) 5 = nI ps from (congrArg s_ps hv1).trans ws.2.2.2.1, if_pos (nI_le (Nat.le_refl _) (by omega))]) (Nat.zero_le _) (by omega) ⟨fun p hp => absurd hp (Nat.not_lt_zero _), by rw [nc_up_ne (by omega), nc_up_same]; exact congrArg s_lw hv, nc_up_same, fun a k ha => by rw [nc_up_na (by omega), nc_up_na (by omega)]⟩
  refine ⟨m', e, ⟨?_, i2, i3, i1⟩, fun a c ha hc => (i4 _ _ (by omega)).trans (hl a c ha hc), i4⟩
  rw [← hv]
  exact vC_fr (fun a k a1 a2 a3 => i4 a k (by omega))
theorem M_ways {M : Nat} {A : nc_A} (h : aM m M = A) (ws : s_wf A.1 n pl ps th) : ∃ m', f_X8_findWays m M = some m' ∧ nc_MY A.1 pl ps (s_w0 A.1) M m' ∧ nc_fr_far A.1 M pl m' ∧ ∀ a k, ¬ (M + 28 ≤ a ∧ a < M + 50) → m' a k = m a k := by
  obtain ⟨m', e, h', f', w', F'⟩ := M_findWays h ws
  exact ⟨m', e, ⟨M_v h', w'⟩, f', F'⟩
/-- a sum over things, that changes nothing but what is thought -/
theorem C_each {rule al : Int32} {w : nc_Wy} {R : Type} {z : Int32 → Int32 → nc_Mem → Option R} {B : (Int32 → Int32 → nc_Mem → Option R) → Int32 → Int32 → nc_Mem → Option R} (g : Nat → Int32 → Int32) (E : Int32 → nc_Mem → Option R) (cx : nc_CX S pl ps rule al w X m) (ws : s_wf S n pl ps th) (ok : s_wok pl ps w) (hs : ∀ rc x j m1 m2, j < th → nc_CX S pl ps rule al w X m1 → f_X2_soonestOf m1 X (nI j) = some (m2, s_soon S pl ps rule j al w) → nc_CX S pl ps rule al w X m2 → B rc x (nI j) m1 = rc (g j x) (nI (j + 1)) m2) (he : ∀ rc x m1, nc_CX S pl ps rule al w X m1 → B rc x (nI th) m1 = E x m1) (x0 : Int32) : ∃ m', nc_loop z B 200 x0 0 m = E (nc_fo g th 0 x0) m' ∧ nc_CX S pl ps rule al w X m' ∧ ∀ a k, ¬ (a = X + 57 ∧ k < 7) → m' a k = m a k := by
  have h5 := ws.2.2.2.2.1
  have h7 := ws.2.2.2.2.2.2.1
  obtain ⟨y, m', ⟨i1, i2⟩, e⟩ := nc_forI1 (z := z) (B := B) (s := 0) (n := 200) (y := x0) (x := m) (fun j y m1 => y = nc_fo g j 0 x0 ∧ ∀ a k, ¬ (a = X + 57 ∧ k < 7) → m1 a k = m a k) th E (fun rc j y m1 _ hj ⟨j1, j2⟩ => by
      have c1 : nc_CX S pl ps rule al w X m1 := nc_CX_fr h5 cx (fun a k h => j2 a k (by omega))
      obtain ⟨m2, e2, -, F2⟩ := C_soon c1 ws ok hj
      have c2 : nc_CX S pl ps rule al w X m2 := nc_CX_fr h5 c1 (fun a k h => F2 a k (by omega))
      refine ⟨g j y, m2, ⟨?_, fun a k ha => (F2 a k ha).trans (j2 a k ha)⟩, hs rc y j m1 m2 hj c1 e2 c2⟩
      rw [nc_fo_succ, Nat.zero_add, j1]) (fun rc y m1 ⟨j1, j2⟩ => he rc y m1 (nc_CX_fr h5 cx (fun a k h => j2 a k (by omega)))) (Nat.zero_le _) (by omega) ⟨rfl, fun _ _ _ => rfl⟩
  exact ⟨m', by rw [← i1]; exact e, nc_CX_fr h5 cx (fun a k h => i2 a k (by omega)), i2⟩
theorem M_each {M : Nat} {rule al : Int32} {w : nc_Wy} {R : Type} {z : Int32 → Int32 → nc_Mem → Option R} {B : (Int32 → Int32 → nc_Mem → Option R) → Int32 → Int32 → nc_Mem → Option R} (g : Nat → Int32 → Int32) (E : Int32 → nc_Mem → Option R) (mx : nc_MY S pl ps w M m) (ws : s_wf S n pl ps th) (ok : s_wok pl ps w) (hr : nc_ok rule 5) (hs : ∀ rc x j m1 m2, j < th → nc_MY S pl ps w M m1 → f_X8_soonestBy m1 M rule (nI j) al = some (m2, s_soon S pl ps rule j al w) → nc_MY S pl ps w M m2 → (∀ a k, ¬ (a = M + 50 ∧ k < 7) → m2 a k = m a k) → B rc x (nI j) m1 = rc (g j x) (nI (j + 1)) m2) (he : ∀ rc x m1, nc_MY S pl ps w M m1 → B rc x (nI th) m1 = E x m1) (x0 : Int32) : ∃ m', nc_loop z B 200 x0 0 m = E (nc_fo g th 0 x0) m' ∧ nc_MY S pl ps w M m' ∧ ∀ a k, ¬ (a = M + 50 ∧ k < 7) → m' a k = m a k := by
  have h5 := ws.2.2.2.2.1
  have h7 := ws.2.2.2.2.2.2.1
  obtain ⟨y, m', ⟨i1, i2⟩, e⟩ := nc_forI1 (z := z) (B := B) (s := 0) (n := 200) (y := x0) (x := m) (fun j y m1 => y = nc_fo g j 0 x0 ∧ ∀ a k, ¬ (a = M + 50 ∧ k < 7) → m1 a k = m a k) th E (fun rc j y m1 _ hj ⟨j1, j2⟩ => by
      have c1 : nc_MY S pl ps w M m1 := nc_MY_fr h5 mx (fun a k h => j2 a k (by omega))
      obtain ⟨m2, -, e2, -, F2⟩ := M_soon (al := al) c1 ws ok hr hj
      have c2 : nc_MY S pl ps w M m2 := nc_MY_fr h5 c1 (fun a k h => F2 a k (by omega))
      have F : ∀ a k, ¬ (a = M + 50 ∧ k < 7) → m2 a k = m a k := fun a k ha => (F2 a k ha).trans (j2 a k ha)
      refine ⟨g j y, m2, ⟨?_, F⟩, hs rc y j m1 m2 hj c1 e2 c2 F⟩
      rw [nc_fo_succ, Nat.zero_add, j1]) (fun rc y m1 ⟨j1, j2⟩ => he rc y m1 (nc_MY_fr h5 mx (fun a k h => j2 a k (by omega)))) (Nat.zero_le _) (by omega) ⟨rfl, fun _ _ _ => rfl⟩
  exact ⟨m', by rw [← i1]; exact e, nc_MY_fr h5 mx (fun a k h => i2 a k (by omega)), i2⟩
theorem nc_CX_th {rule al : Int32} {w : nc_Wy} (cx : nc_CX S pl ps rule al w X m) (ws : s_wf S n pl ps th) : m (X + 1) 6 = nI th := (congrArg s_th cx.1).trans ws.2.2.2.2.2.1
theorem nc_MY_th {M : Nat} {w : nc_Wy} (mx : nc_MY S pl ps w M m) (ws : s_wf S n pl ps th) : m M 9 = nI th := (congrArg s_th mx.1).trans ws.2.2.2.2.2.1
theorem nc_MY_lw {M : Nat} {w : nc_Wy} (mx : nc_MY S pl ps w M m) : m M 11 = s_lw S := congrArg s_lw mx.1
end MINDS
section ASK
variable {n : Nat} {A : nc_A} {X M : Nat}
theorem sim_t {g1 g2 : nc_Mem → Int32 → Option (nc_Mem × Int32)} {LS : nc_Mem → Prop} (wf : nc_WF n A) (a : Int32)
    (h1 : ∀ mi th, mi (X + 1) 6 = nI th → th ≤ 6 → (a < 0 ∨ nI th ≤ a) → g1 mi a = Option.bind (f_X7_refuse mi X (-(nI 1))) (fun q => some (q.1, q.2)))
    (h2 : ∀ mi th, mi M 9 = nI th → th ≤ 6 → (a < 0 ∨ nI th ≤ a) → g2 mi a = Option.bind (f_X8_refuse mi M (-(nI 1))) (fun q => some (q.1, q.2)))
    (h5 : ∀ pl ps th t, s_wf A.1 n pl ps th → t < th → a = nI t → nc_SIM n A LS X M (fun mi => g1 mi a) (fun mi => g2 mi a)) : nc_SIM n A LS X M (fun mi => g1 mi a) (fun mi => g2 mi a) := by
  obtain ⟨⟨pl, ps, th, ws⟩, wl, wr⟩ := id wf
  obtain ⟨w1, w2, w3, w4, w5, w6, w7, w8, w9⟩ := id ws
  rcases nc_among a (n := th) (by omega) with ⟨p, hp, ea⟩ | ha
  · exact h5 pl ps th p ws hp ea
  · exact nc_SIM_ref wf 1 (by omega) (fun mi h hl => h1 mi th ((C_th h).trans w6) w7 ha) (fun mi h => h2 mi th ((M_th h).trans w6) w7 ha)
theorem sim_soonest (wf : nc_WF n A) (a : Int32) : nc_SIM n A (nc_lst A.1 (X + 1)) X M (fun mi => f_X7_soonest mi X a) (fun mi => f_X8_soonest mi M a) := by
  refine sim_t (g1 := fun mi a => f_X7_soonest mi X a) (g2 := fun mi a => f_X8_soonest mi M a) wf a (fun mi th e hs ha => ?_) (fun mi th e hs ha => ?_) (fun pl ps th t ws ht ea => ?_)
  · show f_X7_soonest mi X a = _
    unfold f_X7_soonest
    rw [C_isTn e ha, if_pos rfl]
    rfl
  · show f_X8_soonest mi M a = _
    unfold f_X8_soonest
    rw [M_isTn e hs ha]
    rfl
  · subst ea
    obtain ⟨w1, w2, w3, w4, w5, w6, w7, w8, w9⟩ := id ws
    refine nc_SIM_ob wf (s_soon A.1 pl ps (s_lw A.1) t (-9) (s_w0 A.1)) (fun mi h hl => ?_) (fun mi h => ?_)
    · obtain ⟨m1, e1, cx, -, F1⟩ := C_recall (C_v h) hl ws
      obtain ⟨m2, e2, -, F2⟩ := C_soon cx ws (s_w0_ok ws) ht
      refine ⟨m2, ?_, fun a k ha => (F2 a k (by omega)).trans (F1 a k (by omega))⟩
      show f_X7_soonest mi X _ = _
      unfold f_X7_soonest
      rw [C_isT ((C_th h).trans w6) w7 ht, if_neg (by decide), e1]
      simp only [nc_some_bind]
      rw [e2]
      rfl
    · obtain ⟨m1, e1, mx, -, F1⟩ := M_ways h ws
      obtain ⟨m2, -, e2, -, F2⟩ := M_soon (al := -9) mx ws (s_w0_ok ws) w8 ht
      refine ⟨m2, ?_, fun a k ha => (F2 a k (by omega)).trans (F1 a k (by omega))⟩
      show f_X8_soonest mi M _ = _
      unfold f_X8_soonest
      rw [M_isT ((M_th h).trans w6) w7 ht, e1]
      simp only [nc_some_bind]
      rw [if_neg (by decide), nc_MY_lw mx, e2]
      rfl
def s_nev (S : nc_S) (pl ps : Nat) (j : Nat) (x : Int32) : Int32 := if s_soon S pl ps (s_lw S) j (-9) (s_w0 S) = -9 then x ||| ((1 : Int32) <<< (nI j &&& 31)) else x
theorem sim_never (wf : nc_WF n A) : nc_SIM n A (nc_lst A.1 (X + 1)) X M (fun mi => f_X7_never mi X) (fun mi => f_X8_never mi M) := by
  obtain ⟨⟨pl, ps, th, ws⟩, wl, wr⟩ := id wf
  obtain ⟨w1, w2, w3, w4, w5, w6, w7, w8, w9⟩ := id ws
  refine nc_SIM_ob wf (nc_fo (s_nev A.1 pl ps) th 0 0) (fun mi h hl => ?_) (fun mi h => ?_)
  · obtain ⟨m1, e1, cx, -, F1⟩ := C_recall (C_v h) hl ws
    obtain ⟨m2, e2, -, F2⟩ := C_each (z := fun _ _ _ => none) (B := B_X7_never_11 X) (s_nev A.1 pl ps) (fun x m => some (m, x)) cx ws (s_w0_ok ws) (fun rc x j m1 m2 hj c1 e c2 => by
      unfold B_X7_never_11 s_nev
      simp only [nc_let_eq]
      rw [nc_CX_th c1 ws, if_neg (nI_ge hj (by omega)), e]
      simp only [nc_some_bind]
      rw [nI_1]
      split <;> rfl) (fun rc x m1 c1 => by
      unfold B_X7_never_11
      rw [nc_CX_th c1 ws, if_pos (nI_le (Nat.le_refl _) (by omega))]) 0
    refine ⟨m2, ?_, fun a k ha => (F2 a k (by omega)).trans (F1 a k (by omega))⟩
    show f_X7_never mi X = _
    unfold f_X7_never
    rw [e1]
    exact e2
  · obtain ⟨m1, e1, mx, -, F1⟩ := M_ways h ws
    obtain ⟨m2, e2, -, F2⟩ := M_each (z := fun _ _ _ => none) (B := B_X8_never_8 M) (al := -9) (s_nev A.1 pl ps) (fun x m => some (m, x)) mx ws (s_w0_ok ws) w8 (fun rc x j m1 m2 hj c1 e c2 _ => by
      unfold B_X8_never_8 s_nev
      simp only [nc_let_eq]
      rw [nc_MY_th c1 ws, if_neg (nI_ge hj (by omega)), nc_MY_lw c1, e]
      simp only [nc_some_bind]
      rw [nI_1, show x ||| 0 = x from Int32.or_zero]
      split <;> rfl) (fun rc x m1 c1 => by
      unfold B_X8_never_8
      rw [nc_MY_th c1 ws, if_pos (nI_le (Nat.le_refl _) (by omega))]) 0
    refine ⟨m2, ?_, fun a k ha => (F2 a k (by omega)).trans (F1 a k (by omega))⟩
    show f_X8_never mi M = _
    unfold f_X8_never
    rw [e1]
    exact e2
end ASK
