-- FUNCTIONAL LEVEL: the whole state that both sides show, and what it means that they go on alike
abbrev nc_A : Type := nc_S × (Int32 × (Nat → Int32)) × (Int32 × (Nat → Int32)) × (Nat → Int32)
def aC (mi : nc_Mem) (X : Nat) : nc_A := (vC mi (X + 1), (mi (X + 52) 2, fun i => if i < 64 then mi (X + 52 + 1) i else 0), (mi X 8, fun i => if i < 6 then mi (X + 80) i else 0), fun i => if i < 7 then mi (X + 81) i else 0)
def aM (mi : nc_Mem) (M : Nat) : nc_A := (vM mi M, (mi M 1, fun i => if i < 64 then mi (M + 1) i else 0), (mi M 3, fun i => if i < 6 then mi (M + 2) i else 0), fun i => if i < 7 then mi (M + 3) i else 0)
def nc_frC (X : Nat) (mi mi' : nc_Mem) : Prop := ∀ a k, (a < X ∨ X + 82 ≤ a ∨ a = X + 1 + 4 ∨ (X + 35 ≤ a ∧ a < X + 52) ∨ (a = X ∧ k = 9)) → mi' a k = mi a k
def nc_frM (M : Nat) (mi mi' : nc_Mem) : Prop := ∀ a k, (a < M ∨ M + 54 ≤ a) → mi' a k = mi a k
theorem nc_frC_r {X : Nat} {mi : nc_Mem} : nc_frC X mi mi := fun _ _ _ => rfl
theorem nc_frM_r {M : Nat} {mi : nc_Mem} : nc_frM M mi mi := fun _ _ _ => rfl
theorem nc_frC_u {X a k : Nat} {v : Int32} {mi mi' : nc_Mem} (h : nc_frC X mi mi') (hc : ¬ (a < X ∨ X + 82 ≤ a ∨ a = X + 1 + 4 ∨ (X + 35 ≤ a ∧ a < X + 52) ∨ (a = X ∧ k = 9))) : nc_frC X mi (nc_up mi' a k v) := by
  intro a' k' h'
  rw [nc_up_ne (fun e => hc (by rw [← e.1, ← e.2]; exact h'))]
  exact h a' k' h'
theorem nc_frM_u {M a k : Nat} {v : Int32} {mi mi' : nc_Mem} (h : nc_frM M mi mi') (hc : ¬ (a < M ∨ M + 54 ≤ a)) : nc_frM M mi (nc_up mi' a k v) := by
  intro a' k' h'
  rw [nc_up_ne (fun e => hc (by rw [← e.1]; exact h'))]
  exact h a' k' h'
theorem nc_frC_t {X : Nat} {m1 m2 m3 : nc_Mem} (h : nc_frC X m1 m2) (h' : nc_frC X m2 m3) : nc_frC X m1 m3 := fun a k hc => (h' a k hc).trans (h a k hc)
theorem nc_frM_t {X : Nat} {m1 m2 m3 : nc_Mem} (h : nc_frM X m1 m2) (h' : nc_frM X m2 m3) : nc_frM X m1 m3 := fun a k hc => (h' a k hc).trans (h a k hc)
-- writing
def s_setP (S : nc_S) (p k : Nat) (v : Int32) : nc_S := (s_pl S, s_ps S, s_th S, s_lw S, s_w S, (fun p' k' => if p' = p ∧ k' = k then v else s_P S p' k'), s_T S)
def s_setT (S : nc_S) (t k : Nat) (v : Int32) : nc_S := (s_pl S, s_ps S, s_th S, s_lw S, s_w S, s_P S, fun t' k' => if t' = t ∧ k' = k then v else s_T S t' k')
def s_setL (S : nc_S) (v : Int32) : nc_S := (s_pl S, s_ps S, s_th S, v, s_w S, s_P S, s_T S)
def a_setR (A : nc_A) (j : Nat) (v : Int32) : nc_A := (A.1, A.2.1, A.2.2.1, fun i => if i = j then v else A.2.2.2 i)
theorem vC_uP {mi : nc_Mem} {b p k : Nat} {v : Int32} (hp : p < 6) (hk : k < 7) : vC (nc_up mi (b + 5 + p) k v) b = s_setP (vC mi b) p k v := by
  simp only [vC, s_setP, nc_up, Prod.mk.injEq]
  refine ⟨?_, ?_, ?_, ?_, ?_, ?_, ?_⟩ <;> (try funext i j) <;> grind
theorem vC_uT {mi : nc_Mem} {b p k : Nat} {v : Int32} (hp : p < 6) (hk : k < 10) : vC (nc_up mi (b + 11 + p) k v) b = s_setT (vC mi b) p k v := by
  simp only [vC, s_setT, nc_up, Prod.mk.injEq]
  refine ⟨?_, ?_, ?_, ?_, ?_, ?_, ?_⟩ <;> (try funext i j) <;> grind
theorem vC_uL {mi : nc_Mem} {b : Nat} {v : Int32} : vC (nc_up mi b 7 v) b = s_setL (vC mi b) v := by
  simp only [vC, s_setL, nc_up, Prod.mk.injEq]
  refine ⟨?_, ?_, ?_, ?_, ?_, ?_, ?_⟩ <;> (try funext i j) <;> grind
theorem vC_fr {mi mi' : nc_Mem} {b : Nat} (h : ∀ a k, b ≤ a → a < b + 17 → a ≠ b + 4 → mi' a k = mi a k) : vC mi' b = vC mi b := by
  simp only [vC, Prod.mk.injEq]
  refine ⟨?_, ?_, ?_, ?_, ?_, ?_, ?_⟩ <;> (try funext i j) <;> (try split) <;> first | rfl | exact h _ _ (by omega) (by omega) (by omega)
theorem vM_fr {mi mi' : nc_Mem} {m : Nat} (h : ∀ a k, m ≤ a → a < m + 26 → mi' a k = mi a k) : vM mi' m = vM mi m := by
  simp only [vM, Prod.mk.injEq]
  refine ⟨?_, ?_, ?_, ?_, ?_, ?_, ?_⟩ <;> (try funext i j) <;> (try split) <;> first | rfl | exact h _ _ (by omega) (by omega)
theorem vM_uP {mi : nc_Mem} {m p k : Nat} {v : Int32} (hp : p < 6) (hk : k < 7) : vM (nc_up mi (m + 12 + 1 + p) k v) m = s_setP (vM mi m) p k v := by
  simp only [vM, s_setP, nc_up, Prod.mk.injEq]
  refine ⟨?_, ?_, ?_, ?_, ?_, ?_, ?_⟩ <;> (try funext i j) <;> grind
theorem vM_uT {mi : nc_Mem} {m p k : Nat} {v : Int32} (hp : p < 6) (hk : k < 10) : vM (nc_up mi (m + 19 + 1 + p) k v) m = s_setT (vM mi m) p k v := by
  simp only [vM, s_setT, nc_up, Prod.mk.injEq]
  refine ⟨?_, ?_, ?_, ?_, ?_, ?_, ?_⟩ <;> (try funext i j) <;> grind
theorem vM_uL {mi : nc_Mem} {m : Nat} {v : Int32} : vM (nc_up mi m 11 v) m = s_setL (vM mi m) v := by
  simp only [vM, s_setL, nc_up, Prod.mk.injEq]
  refine ⟨?_, ?_, ?_, ?_, ?_, ?_, ?_⟩ <;> (try funext i j) <;> grind
theorem aC_fr {mi mi' : nc_Mem} {X : Nat} (h : ∀ a k, X ≤ a → a < X + 82 → ¬ a = X + 1 + 4 → (a < X + 18 ∨ a = X + 52 ∨ a = X + 53 ∨ a = X + 80 ∨ a = X + 81) → (a = X → k = 8) → mi' a k = mi a k) : aC mi' X = aC mi X := by
  simp only [aC, Prod.mk.injEq]
  refine ⟨vC_fr (fun a k h1 h2 h3 => h a k (by omega) (by omega) (by omega) (by omega) (by omega)), ⟨?_, ?_⟩, ⟨?_, ?_⟩, ?_⟩ <;> (try funext i) <;> (try split) <;> first | rfl | exact h _ _ (by omega) (by omega) (by omega) (by omega) (by omega)
theorem aM_fr {mi mi' : nc_Mem} {M : Nat} (h : ∀ a k, M ≤ a → a < M + 26 → mi' a k = mi a k) : aM mi' M = aM mi M := by
  simp only [aM, Prod.mk.injEq]
  refine ⟨vM_fr (fun a k h1 h2 => h a k (by omega) (by omega)), ⟨?_, ?_⟩, ⟨?_, ?_⟩, ?_⟩ <;> (try funext i) <;> (try split) <;> first | rfl | exact h _ _ (by omega) (by omega)
theorem nc_fun_e {f g : Nat → Int32} (h : ∀ i, f i = g i) : f = g := funext h
theorem aC_uP {mi : nc_Mem} {X p k : Nat} {v : Int32} (hp : p < 6) (hk : k < 7) : aC (nc_up mi (X + 1 + 5 + p) k v) X = (s_setP (aC mi X).1 p k v, (aC mi X).2) := by
  have h := vC_uP (mi := mi) (b := X + 1) (v := v) hp hk
  simp only [aC, Prod.mk.injEq]
  refine ⟨h, ⟨?_, ?_⟩, ⟨?_, ?_⟩, ?_⟩ <;> (try funext i) <;> (try split) <;> first | rfl | exact nc_up_na (by omega)
theorem aC_uT {mi : nc_Mem} {X p k : Nat} {v : Int32} (hp : p < 6) (hk : k < 10) : aC (nc_up mi (X + 1 + 11 + p) k v) X = (s_setT (aC mi X).1 p k v, (aC mi X).2) := by
  have h := vC_uT (mi := mi) (b := X + 1) (v := v) hp hk
  simp only [aC, Prod.mk.injEq]
  refine ⟨h, ⟨?_, ?_⟩, ⟨?_, ?_⟩, ?_⟩ <;> (try funext i) <;> (try split) <;> first | rfl | exact nc_up_na (by omega)
theorem aC_uL {mi : nc_Mem} {X : Nat} {v : Int32} : aC (nc_up mi (X + 1) 7 v) X = (s_setL (aC mi X).1 v, (aC mi X).2) := by
  have h := vC_uL (mi := mi) (b := X + 1) (v := v)
  simp only [aC, Prod.mk.injEq]
  refine ⟨h, ⟨?_, ?_⟩, ⟨?_, ?_⟩, ?_⟩ <;> (try funext i) <;> (try split) <;> first | rfl | exact nc_up_na (by omega)
theorem aC_uR {mi : nc_Mem} {X j : Nat} {v : Int32} (hj : j < 7) : aC (nc_up mi (X + 81) j v) X = a_setR (aC mi X) j v := by
  simp only [aC, a_setR, Prod.mk.injEq]
  refine ⟨vC_fr (fun a k h1 h2 h3 => nc_up_na (by omega)), ⟨?_, ?_⟩, ⟨?_, ?_⟩, ?_⟩ <;> (try funext i) <;> (try rfl) <;> simp only [nc_up] <;> grind
theorem aM_uP {mi : nc_Mem} {M p k : Nat} {v : Int32} (hp : p < 6) (hk : k < 7) : aM (nc_up mi (M + 12 + 1 + p) k v) M = (s_setP (aM mi M).1 p k v, (aM mi M).2) := by
  have h := vM_uP (mi := mi) (m := M) (v := v) hp hk
  simp only [aM, Prod.mk.injEq]
  refine ⟨h, ⟨?_, ?_⟩, ⟨?_, ?_⟩, ?_⟩ <;> (try funext i) <;> (try split) <;> first | rfl | exact nc_up_na (by omega)
theorem aM_uT {mi : nc_Mem} {M p k : Nat} {v : Int32} (hp : p < 6) (hk : k < 10) : aM (nc_up mi (M + 19 + 1 + p) k v) M = (s_setT (aM mi M).1 p k v, (aM mi M).2) := by
  have h := vM_uT (mi := mi) (m := M) (v := v) hp hk
  simp only [aM, Prod.mk.injEq]
  refine ⟨h, ⟨?_, ?_⟩, ⟨?_, ?_⟩, ?_⟩ <;> (try funext i) <;> (try split) <;> first | rfl | exact nc_up_na (by omega)
theorem aM_uL {mi : nc_Mem} {M : Nat} {v : Int32} : aM (nc_up mi M 11 v) M = (s_setL (aM mi M).1 v, (aM mi M).2) := by
  have h := vM_uL (mi := mi) (m := M) (v := v)
  simp only [aM, Prod.mk.injEq]
  refine ⟨h, ⟨?_, ?_⟩, ⟨?_, ?_⟩, ?_⟩ <;> (try funext i) <;> (try split) <;> first | rfl | exact nc_up_na (by omega) | exact nc_up_ne (by omega)
theorem aM_uR {mi : nc_Mem} {M j : Nat} {v : Int32} (hj : j < 7) : aM (nc_up mi (M + 3) j v) M = a_setR (aM mi M) j v := by
  simp only [aM, a_setR, vM, Prod.mk.injEq]
  refine ⟨⟨?_, ?_, ?_, ?_, ?_, ?_, ?_⟩, ⟨?_, ?_⟩, ⟨?_, ?_⟩, ?_⟩ <;> (try funext i) <;> (try funext j) <;> (try rfl) <;> simp only [nc_up] <;> grind
-- reading
section RD
variable {mi : nc_Mem} {X M p k : Nat} {A : nc_A}
theorem C_v (h : aC mi X = A) : vC mi (X + 1) = A.1 := congrArg Prod.fst h
theorem M_v (h : aM mi M = A) : vM mi M = A.1 := congrArg Prod.fst h
theorem C_rP (h : aC mi X = A) (hp : p < 6) (hk : k < 7) : mi (X + 1 + 5 + p) k = s_P A.1 p k := (vC_P hp hk).trans (by rw [C_v h])
theorem C_rT (h : aC mi X = A) (hp : p < 6) (hk : k < 10) : mi (X + 1 + 11 + p) k = s_T A.1 p k := (vC_T hp hk).trans (by rw [C_v h])
theorem M_rP (h : aM mi M = A) (hp : p < 6) (hk : k < 7) : mi (M + 12 + 1 + p) k = s_P A.1 p k := (vM_P hp hk).trans (by rw [M_v h])
theorem M_rT (h : aM mi M = A) (hp : p < 6) (hk : k < 10) : mi (M + 19 + 1 + p) k = s_T A.1 p k := (vM_T hp hk).trans (by rw [M_v h])
theorem C_pl (h : aC mi X = A) : mi (X + 1) 4 = s_pl A.1 := congrArg (fun A : nc_A => s_pl A.1) h
theorem C_ps (h : aC mi X = A) : mi (X + 1) 5 = s_ps A.1 := congrArg (fun A : nc_A => s_ps A.1) h
theorem C_th (h : aC mi X = A) : mi (X + 1) 6 = s_th A.1 := congrArg (fun A : nc_A => s_th A.1) h
theorem C_lw (h : aC mi X = A) : mi (X + 1) 7 = s_lw A.1 := congrArg (fun A : nc_A => s_lw A.1) h
theorem M_pl (h : aM mi M = A) : mi M 5 = s_pl A.1 := congrArg (fun A : nc_A => s_pl A.1) h
theorem M_ps (h : aM mi M = A) : mi M 7 = s_ps A.1 := congrArg (fun A : nc_A => s_ps A.1) h
theorem M_th (h : aM mi M = A) : mi M 9 = s_th A.1 := congrArg (fun A : nc_A => s_th A.1) h
theorem M_lw (h : aM mi M = A) : mi M 11 = s_lw A.1 := congrArg (fun A : nc_A => s_lw A.1) h
theorem C_lc (h : aC mi X = A) : mi (X + 52) 2 = A.2.1.1 := congrArg (fun A : nc_A => A.2.1.1) h
theorem M_lc (h : aM mi M = A) : mi M 1 = A.2.1.1 := congrArg (fun A : nc_A => A.2.1.1) h
theorem C_rc (h : aC mi X = A) : mi X 8 = A.2.2.1.1 := congrArg (fun A : nc_A => A.2.2.1.1) h
theorem M_rc (h : aM mi M = A) : mi M 3 = A.2.2.1.1 := congrArg (fun A : nc_A => A.2.2.1.1) h
theorem C_lt (h : aC mi X = A) (hk : k < 64) : mi (X + 52 + 1) k = A.2.1.2 k := (if_pos hk).symm.trans (congrArg (fun A : nc_A => A.2.1.2 k) h)
theorem M_lt (h : aM mi M = A) (hk : k < 64) : mi (M + 1) k = A.2.1.2 k := (if_pos hk).symm.trans (congrArg (fun A : nc_A => A.2.1.2 k) h)
theorem C_ro (h : aC mi X = A) (hk : k < 6) : mi (X + 80) k = A.2.2.1.2 k := (if_pos hk).symm.trans (congrArg (fun A : nc_A => A.2.2.1.2 k) h)
theorem M_ro (h : aM mi M = A) (hk : k < 6) : mi (M + 2) k = A.2.2.1.2 k := (if_pos hk).symm.trans (congrArg (fun A : nc_A => A.2.2.1.2 k) h)
theorem C_rf (h : aC mi X = A) (hk : k < 7) : mi (X + 81) k = A.2.2.2 k := (if_pos hk).symm.trans (congrArg (fun A : nc_A => A.2.2.2 k) h)
theorem M_rf (h : aM mi M = A) (hk : k < 7) : mi (M + 3) k = A.2.2.2 k := (if_pos hk).symm.trans (congrArg (fun A : nc_A => A.2.2.2 k) h)
end RD
/-- the state as it can be -/
def nc_WF (n : Nat) (A : nc_A) : Prop := (∃ pl ps th, s_wf A.1 n pl ps th) ∧ (∃ L, A.2.1.1 = nI L ∧ L ≤ 64 ∧ ∀ i, i < L → nc_ok (A.2.1.2 i) 256) ∧ ∃ R, A.2.2.1.1 = nI R ∧ R ≤ 6 ∧ ∀ i, i < R → nc_ok (A.2.2.1.2 i) 10
theorem s_wf_mono {S : nc_S} {n n' pl ps th : Nat} (h : s_wf S n pl ps th) (hn : n ≤ n') : s_wf S n' pl ps th := by
  obtain ⟨w1, w2, w3, w4, w5, w6, w7, w8, w9, w10, w11⟩ := h
  have hb : nc_bd n ≤ nc_bd n' := by unfold nc_bd; omega
  refine ⟨w1, w2, w3, w4, w5, w6, w7, w8, w9, fun p hp => ?_, fun t ht => ?_⟩
  · obtain ⟨a, b, c, d, e, f, g⟩ := w10 p hp
    exact ⟨a, b, c, d, e, f, nc_ok_mono g hb⟩
  · obtain ⟨a, b, c, d, e, f, g, h, i, j⟩ := w11 t ht
    exact ⟨a, b, c, d, e, f, g, h, nc_ok_mono i hb, j.imp id (fun j => nc_ok_mono j hb)⟩
theorem nc_WF_mono {A : nc_A} {n n' : Nat} (h : nc_WF n A) (hn : n ≤ n') : nc_WF n' A := by
  obtain ⟨⟨pl, ps, th, w⟩, r⟩ := h
  exact ⟨⟨pl, ps, th, s_wf_mono w hn⟩, r⟩
def nc_CS (mi : nc_Mem) (X : Nat) (r : Int32) (A' : nc_A) (o : Option (nc_Mem × Int32)) : Prop := ∃ mi', o = some (mi', r) ∧ aC mi' X = A' ∧ nc_frC X mi mi'
def nc_MS (mi : nc_Mem) (M : Nat) (r : Int32) (A' : nc_A) (o : Option (nc_Mem × Int32)) : Prop := ∃ mi', o = some (mi', r) ∧ aM mi' M = A' ∧ nc_frM M mi mi'
def nc_SIM (n : Nat) (A : nc_A) (LS : nc_Mem → Prop) (X M : Nat) (g1 g2 : nc_Mem → Option (nc_Mem × Int32)) : Prop := ∃ r A', nc_WF (n + 1) A' ∧ (∀ mi, aC mi X = A → LS mi → nc_CS mi X r A' (g1 mi)) ∧ (∀ mi, aM mi M = A → nc_MS mi M r A' (g2 mi)) ∧ s_w A'.1 = s_w A.1
theorem C_ref {mi : nc_Mem} {X : Nat} {A : nc_A} (h : aC mi X = A) {w : Nat} (hw : w < 7) : Option.bind (f_X7_refuse mi X (-(nI w))) (fun q => some (q.1, q.2)) = some (nc_up mi (X + 81) w (A.2.2.2 w + 1), -(nI w)) := by
  unfold f_X7_refuse
  simp only [nc_let_eq]
  have e : - -(nI w) = nI w := Int32.neg_neg
  rw [e, if_neg (nI_pos (by omega)), if_neg (by rw [show (7 : Int32) = nI 7 from rfl]; exact nI_ge hw (by omega)), nc_at_nI hw (by omega), C_rf h hw]
  rfl
theorem M_ref {mi : nc_Mem} {M : Nat} {A : nc_A} (h : aM mi M = A) {w : Nat} (hw : w < 7) : Option.bind (f_X8_refuse mi M (-(nI w))) (fun q => some (q.1, q.2)) = some (nc_up mi (M + 3) w (A.2.2.2 w + 1), -(nI w)) := by
  unfold f_X8_refuse
  simp only [nc_let_eq]
  have e : - -(nI w) = nI w := Int32.neg_neg
  rw [e, nc_at_nI (by omega) (by omega), M_rf h hw]
  rfl
theorem nc_WF_setR {n : Nat} {A : nc_A} (h : nc_WF n A) (j : Nat) (v : Int32) : nc_WF (n + 1) (a_setR A j v) := nc_WF_mono (A := a_setR A j v) h (by omega)
theorem nc_SIM_ref {n : Nat} {A : nc_A} {LS : nc_Mem → Prop} {X M : Nat} {g1 g2 : nc_Mem → Option (nc_Mem × Int32)} (wf : nc_WF n A) (w : Nat) (hw : w < 7) (h1 : ∀ mi, aC mi X = A → LS mi → g1 mi = Option.bind (f_X7_refuse mi X (-(nI w))) (fun q => some (q.1, q.2))) (h2 : ∀ mi, aM mi M = A → g2 mi = Option.bind (f_X8_refuse mi M (-(nI w))) (fun q => some (q.1, q.2))) : nc_SIM n A LS X M g1 g2 := by
  refine ⟨-(nI w), a_setR A w (A.2.2.2 w + 1), nc_WF_setR wf _ _, fun mi h hl => ⟨_, (h1 mi h hl).trans (C_ref h hw), ?_, ?_⟩, fun mi h => ⟨_, (h2 mi h).trans (M_ref h hw), ?_, ?_⟩, rfl⟩
  · rw [aC_uR hw, h]
  · exact nc_frC_u nc_frC_r (by omega)
  · rw [aM_uR hw, h]
  · exact nc_frM_u nc_frM_r (by omega)
/-- nothing changes -/
theorem nc_SIM_id {n : Nat} {A : nc_A} {LS : nc_Mem → Prop} {X M : Nat} {g1 g2 : nc_Mem → Option (nc_Mem × Int32)} (wf : nc_WF n A) (r : Int32) (h1 : ∀ mi, aC mi X = A → LS mi → g1 mi = some (mi, r)) (h2 : ∀ mi, aM mi M = A → g2 mi = some (mi, r)) : nc_SIM n A LS X M g1 g2 :=
  ⟨r, A, nc_WF_mono wf (by omega), fun mi h hl => ⟨mi, h1 mi h hl, h, nc_frC_r⟩, fun mi h => ⟨mi, h2 mi h, h, nc_frM_r⟩, rfl⟩
