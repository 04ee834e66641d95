-- THE WORLD: all cells from B on are ours: objects of nine kinds, int arrays, arrays of references; their ints are mi, their references mr (0: null), their shapes sh
abbrev nc_Mem : Type := Nat → Nat → Int32
abbrev nc_G : Type := va_G × (Nat → ClassId) × Nat × Heap × (Nat → Nat) × (Nat → Nat)
abbrev nc_K : Type := Nat × (Nat → Nat × Nat) × (Nat → Nat → Nat)
def nc_U : List Cond := lw_tbl.filter goodWord
theorem nc_w {w : Cond} (i : Nat) (h : lw_tbl[i]? = some w) (g : goodWord w = true) : w ∈ nc_U := List.mem_filter.mpr ⟨List.mem_of_getElem? h, g⟩
abbrev nc_cl : List vw_C := [(RX0, TX0, 2), (RX1, TX1, 4), (RX2, TX2, 8), (RX3, TX3, 7), (RX4, TX4, 10), (RX5, TX5, 8), (RX6, TX6, 3), (RX7, TX7, 10), (RX8, TX8, 28)]
abbrev nc_tys (cA : Nat → ClassId) : List (ClassId × FieldType) := [(cA 9, .int), (cA 10, .object RX3), (cA 11, .object RX4), (cA 12, .object RX6), (cA 13, .array .int)]
def nc_isR (ci k : Nat) : Bool := match ci with
  | 0 => true
  | 1 => decide (k < 2)
  | 2 => decide (k < 4)
  | 5 => decide (k < 4)
  | 6 => decide (k < 2)
  | 7 => decide (k < 8)
  | 8 => !([1, 3, 5, 7, 9, 11, 14, 16, 26, 27].contains k)
  | _ => false
def nc_o (r : Nat) : Option Nat := if r = 0 then none else some r
abbrev nc_rv (r : Nat) : Value := va_rf (nc_o r)
theorem nc_rv_pos {r : Nat} (h : 0 < r) : nc_rv r = .ref r := by
  simp [nc_rv, nc_o, va_rf, Nat.pos_iff_ne_zero.mp h]
theorem nc_rv_0 : nc_rv 0 = .null := rfl
def nc_V (ci : Nat) (fi : Nat → Int32) (fr : Nat → Nat) (k : Nat) : Value := if nc_isR ci k = true then nc_rv (fr k) else .int (fi k)
def nc_cell (G : nc_G) (a : Nat) (kn : Nat × Nat) (fi : Nat → Int32) (fr : Nat → Nat) (H : Heap) : Prop :=
  if kn.1 < 9 then t_OB a (G.1.1 kn.1) kn.2 (G.1.2 kn.1) H (nc_V kn.1 fi fr)
  else if kn.1 = 9 then H[a]? = some (arrV (G.2.1 9) kn.2 (fun j => .int (fi j)))
  else H[a]? = some (arrV (G.2.1 kn.1) kn.2 (fun j => nc_rv (fr j)))
def nc_W (G : nc_G) (K : nc_K) (mi : nc_Mem) (H : Heap) (locs : List Loc) : Prop :=
  H.size = K.1 ∧ 0 < G.2.2.1 ∧ G.2.2.1 ≤ K.1 ∧ (∀ q, q < G.2.2.1 → H[q]? = G.2.2.2.1[q]?) ∧ (∀ a, G.2.2.1 ≤ a → a < K.1 → nc_cell G a (K.2.1 a) (mi a) (K.2.2 a) H) ∧ (∀ a k, K.1 ≤ a → mi a k = 0 ∧ K.2.2 a k = 0) ∧ ∀ q ∈ locs, G.2.2.1 ≤ q.base
def nc_Is (G : nc_G) (K : nc_K) (a : Nat) (kn : Nat × Nat) : Prop := G.2.2.1 ≤ a ∧ a < K.1 ∧ K.2.1 a = kn
def nc_up (mi : nc_Mem) (a k : Nat) (v : Int32) : nc_Mem := fun a' k' => if a' = a ∧ k' = k then v else mi a' k'
theorem nc_up_row (mi : nc_Mem) (a k : Nat) (v : Int32) : nc_up mi a k v a = upd (mi a) k v := by
  funext k'
  simp [nc_up, upd]
theorem nc_up_other {mi : nc_Mem} {a k a' : Nat} {v : Int32} (h : a' ≠ a) : nc_up mi a k v a' = mi a' := by
  funext k'
  simp [nc_up, h]
theorem nc_cell_kept {G : nc_G} {a : Nat} {kn : Nat × Nat} {fi : Nat → Int32} {fr : Nat → Nat} {H H1 : Heap} (h : nc_cell G a kn fi fr H) (hq : H1[a]? = H[a]?) : nc_cell G a kn fi fr H1 := by
  unfold nc_cell at h ⊢
  split
  · rw [if_pos (by assumption)] at h
    exact h.kept hq
  · rw [if_neg (by assumption)] at h
    split
    · rw [if_pos (by assumption)] at h
      rw [hq]; exact h
    · rw [if_neg (by assumption)] at h
      rw [hq]; exact h
theorem nc_cell_obj {G : nc_G} {a ci N : Nat} {fi : Nat → Int32} {fr : Nat → Nat} {H : Heap} (hci : ci < 9) : nc_cell G a (ci, N) fi fr H ↔ t_OB a (G.1.1 ci) N (G.1.2 ci) H (nc_V ci fi fr) := by
  unfold nc_cell
  rw [if_pos hci]
theorem nc_cell_int {G : nc_G} {a N : Nat} {fi : Nat → Int32} {fr : Nat → Nat} {H : Heap} : nc_cell G a (9, N) fi fr H ↔ H[a]? = some (arrV (G.2.1 9) N (fun j => .int (fi j))) := by
  unfold nc_cell
  rw [if_neg (by show ¬ (9 : Nat) < 9; decide), if_pos rfl]
theorem nc_cell_ref {G : nc_G} {a ki N : Nat} {fi : Nat → Int32} {fr : Nat → Nat} {H : Heap} (hk : 9 < ki) : nc_cell G a (ki, N) fi fr H ↔ H[a]? = some (arrV (G.2.1 ki) N (fun j => nc_rv (fr j))) := by
  unfold nc_cell
  rw [if_neg (by show ¬ ki < 9; omega), if_neg (by show ¬ ki = 9; omega)]
theorem nc_at_cell {G : nc_G} {K : nc_K} {mi : nc_Mem} {H : Heap} {locs : List Loc} (hw : nc_W G K mi H locs) {a : Nat} {kn : Nat × Nat} (ha : nc_Is G K a kn) : nc_cell G a kn (mi a) (K.2.2 a) H := by
  have := hw.2.2.2.2.1 a ha.1 ha.2.1
  rw [ha.2.2] at this
  exact this
/-- behind a write of an int -/
theorem nc_W_set {G : nc_G} {K : nc_K} {mi : nc_Mem} {H H1 : Heap} {locs : List Loc} (hw : nc_W G K mi H locs) {a k i : Nat} {kn : Nat × Nat} {v : Int32} (ha : nc_Is G K a kn) (hz : H1.size = H.size) (ho : ∀ q, q ≠ a → H1[q]? = H[q]?) (hc : nc_cell G a kn (upd (mi a) k v) (K.2.2 a) H1) : nc_W G K (nc_up mi a k v) H1 (locs ++ [⟨a, i⟩]) := by
  obtain ⟨h1, h2, h3, h4, h5, h6, h7⟩ := hw
  refine ⟨hz.trans h1, h2, h3, fun q hq => ?_, fun b hb1 hb2 => ?_, fun b j hb => ?_, fun q hq => ?_⟩
  · rw [ho q (by have := ha.1; omega)]; exact h4 q hq
  · by_cases e : b = a
    · subst e
      rw [nc_up_row, ha.2.2]; exact hc
    · rw [nc_up_other e]
      exact nc_cell_kept (h5 b hb1 hb2) (ho b e)
  · have : b ≠ a := by have := ha.2.1; omega
    rw [nc_up_other this]; exact h6 b j hb
  · rcases List.mem_append.mp hq with h | h
    · exact h7 q h
    · rw [List.mem_singleton.mp h]; exact ha.1
theorem nc_W_locs {G : nc_G} {K : nc_K} {mi : nc_Mem} {H : Heap} {locs L : List Loc} (hw : nc_W G K mi H locs) (h : ∀ q ∈ L, G.2.2.1 ≤ q.base) : nc_W G K mi H L := ⟨hw.1, hw.2.1, hw.2.2.1, hw.2.2.2.1, hw.2.2.2.2.1, hw.2.2.2.2.2.1, h⟩
theorem nc_lay {ci : Nat} {q : vw_C} (h : nc_cl[ci]? = some q) : ∀ w ∈ u_ws q.1 q.2.1 q.2.2, w ∈ nc_U := by
  have key : ∀ q ∈ nc_cl, ∀ w ∈ u_ws q.1 q.2.1 q.2.2, w ∈ nc_U := by decide +kernel
  exact key q (List.mem_of_getElem? h)
theorem nc_types {ci : Nat} {q : vw_C} (h : nc_cl[ci]? = some q) : ∃ ty0 : Nat → FieldType, ∀ k, k < q.2.2 → parseFieldDescriptor (q.2.1 k).2.2.1 = some (ty0 k) := by
  match ci, h with
  | 0, h => cases h; exact ⟨_, tyX0_ok⟩
  | 1, h => cases h; exact ⟨_, tyX1_ok⟩
  | 2, h => cases h; exact ⟨_, tyX2_ok⟩
  | 3, h => cases h; exact ⟨_, tyX3_ok⟩
  | 4, h => cases h; exact ⟨_, tyX4_ok⟩
  | 5, h => cases h; exact ⟨_, tyX5_ok⟩
  | 6, h => cases h; exact ⟨_, tyX6_ok⟩
  | 7, h => cases h; exact ⟨_, tyX7_ok⟩
  | 8, h => cases h; exact ⟨_, tyX8_ok⟩
  | n + 9, h => simp [nc_cl] at h
theorem nc_names {ci : Nat} {q : vw_C} (h : nc_cl[ci]? = some q) : ∀ a, a < q.2.2 → ∀ b, b < q.2.2 → a ≠ b → (q.2.1 a).2.1 ≠ (q.2.1 b).2.1 := by
  match ci, h with
  | 0, h => cases h; exact nmX0
  | 1, h => cases h; exact nmX1
  | 2, h => cases h; exact nmX2
  | 3, h => cases h; exact nmX3
  | 4, h => cases h; exact nmX4
  | 5, h => cases h; exact nmX5
  | 6, h => cases h; exact nmX6
  | 7, h => cases h; exact nmX7
  | 8, h => cases h; exact nmX8
  | n + 9, h => simp [nc_cl] at h
theorem nc_cl_lt {ci : Nat} {q : vw_C} (h : nc_cl[ci]? = some q) : ci < 9 := by
  have := (List.getElem?_eq_some_iff.mp h).1
  simpa using this
-- the String constants of the class, and two statics of the JDK: what they are, below B
def nc_sl : List Nat := [2, 5, 9, 11, 0]
def nc_sb : List (List Int32) := [[49, 59], [49, 49, 44, 50, 59], [49, 49, 44, 51, 44, 49, 44, 49, 59], [49, 49, 49, 49, 44, 49, 44, 51, 44, 50, 59], []]
def nc_st : List String := ["1;", "11,2;", "11,3,1,1;", "1111,1,3,2;", ""]
def nc_AOA (U : State) : Prop := (Cond.arrayOver (.array .int)).before #[] U = true
theorem nc_AOA_moved {u U : State} (hvm : u.vm.Alike U.vm) (h : nc_AOA u) : nc_AOA U := by
  obtain ⟨comp, c, k, h1, h2, h3, h4, h5⟩ := arrayOverA_spec h
  obtain ⟨k', hk', he⟩ := hvm.2.2 _ _ h3
  have hi : (U.vm.classes.findIdx? fun (x : Class) => match x.kind with | .array component _ => component == comp | _ => false) = some c :=
    (hvm.findIdx?_eq _ (fun _ => rfl)).trans h2
  have hkind : k'.kind = .array comp (.array .int) := by rw [he]; exact h4
  have f1 : U.vm.findClass (FieldType.array .int).toString = some comp := by rw [hvm.findClass]; exact h1
  have f2 : U.vm.findClass ("[" ++ (FieldType.array .int).toString) = some c := by rw [hvm.findClass]; exact h5
  unfold nc_AOA Cond.before Cond.holds
  simp only [Cond.value]
  rw [f1, Option.bind_some]
  refine (congrArg (fun o : Option Nat => (o.bind (fun c => (U.vm.classes[c]?).map fun (k : Class) => match k.kind with | .array _ ty => decide (ty = FieldType.array .int) && decide (U.vm.findClass ("[" ++ (FieldType.array .int).toString) = some c) | _ => false) == some true)) hi).trans ?_
  simp [hk', hkind, f2]
def nc_nest : List (String × Nat × MethodName) := [(RX5, 34, yX3_init), (RX5, 35, yX4_init), (RX7, 24, yX1_init), (RX2, 28, yX6_init), (RX7, 40, yX0_init)]
def nc_E (G : nc_G) (U : State) : Prop := va_K G.1 nc_cl (nc_tys G.2.1) U ∧ G.2.2.1 = G.2.2.2.1.size ∧ vk_S 5 nc_sl nc_sb G.2.2.2.2.1 G.2.2.2.2.2 (fun q => G.2.2.1 ≤ q) U G.2.2.2.1 ∧ (∀ i, i < 5 → vk_R "NobodyCarries$Letters" (56 + 2 * i) (nc_st.getD i "") (G.2.2.2.2.1 i) U) ∧ va_Z "java/lang/String" "COMPACT_STRINGS" "Z" (.int 1) (fun q => G.2.2.1 ≤ q) U G.2.2.2.1 ∧ va_Zq "jdk/internal/util/Preconditions" "SIOOBE_FORMATTER" "Ljava/util/function/BiFunction;" (fun q => G.2.2.1 ≤ q) U G.2.2.2.1 ∧ (∀ q ∈ nc_nest, va_Nw (.methodLinkNest q.1 q.2.1 q.2.2 RX7) U) ∧ (∀ C ∈ [RX3, RX4, RX6], va_AO C U) ∧ nc_AOA U
theorem nc_E_warm {G : nc_G} {s U : State} (hW : s.WarmedH U.vm) (h : nc_E G s) : nc_E G U := ⟨va_K.moved hW.alike h.1, h.2.1, vk_S.moved hW.alike h.2.2.1, fun i hi => vk_R.warm hW (h.2.2.2.1 i hi), va_Z.moved hW.alike h.2.2.2.2.1, va_Zq.moved hW.alike h.2.2.2.2.2.1, fun q hq => va_Nw.warmM hW (h.2.2.2.2.2.2.1 q hq), fun C hC => va_AO.moved hW.alike (h.2.2.2.2.2.2.2.1 C hC), nc_AOA_moved hW.alike h.2.2.2.2.2.2.2.2⟩
theorem nc_E_same {G : nc_G} {s U : State} (hv : U.vm = s.vm) (h : nc_E G s) : nc_E G U := by
  have ha : s.vm.Alike U.vm := by rw [hv]; exact Vm.Alike.refl _
  exact ⟨va_K.moved ha h.1, h.2.1, vk_S.moved ha h.2.2.1, fun i hi => vk_R.same hv (h.2.2.2.1 i hi), va_Z.moved ha h.2.2.2.2.1, va_Zq.moved ha h.2.2.2.2.2.1, fun q hq => va_Nw.same rfl hv.symm (h.2.2.2.2.2.2.1 q hq), fun C hC => va_AO.moved ha (h.2.2.2.2.2.2.2.1 C hC), nc_AOA_moved ha h.2.2.2.2.2.2.2.2⟩
-- what stands through a method's body
def nc_C (p : Program) (s : State) (m : MethodId) (args : Array Value) (c : Code) (cc : ByteArray) (nL : Nat) (own : String) (G : nc_G) : Prop :=
  p.tables.exec = Jvm.exec ∧ c.code = cc ∧ c.maxLocals = nL ∧ s.vm.findClass own = some m.cls ∧ (∀ w ∈ nc_U, w.before args s = true) ∧ nc_E G s
-- contracts
def nc_Pc (G : nc_G) (K : nc_K) (mi : nc_Mem) (av : List Value) : Array Value → State → Prop := fun a U => a = av.toArray ∧ nc_W G K mi U.heap [] ∧ nc_E G U
def nc_Qc (G : nc_G) (K : nc_K) (mi : nc_Mem) (rv : Option Value) : Array Value → State → Outcome → State → Prop := fun _ _ o t => o = .returned rv ∧ nc_W G K mi t.heap []
def nc_M (l : Launch) (y : MethodName) (cc : ByteArray) (maxL : Nat) (ret : Option FieldType) (rm : Room) (mc ms : Nat) (G : nc_G) (K K' : nc_K) (av : List Value) (mi mi' : nc_Mem) (rv : Option Value) : Prop :=
  Met l y (Cond.code y cc maxL ret :: nc_U) rm (nc_Pc G K mi av) (nc_Qc G K' mi' rv) mc ms (fun q => G.2.2.1 ≤ q)
theorem nc_blind (G : nc_G) (K : nc_K) (mi : nc_Mem) (av : List Value) : FrameBlind (nc_Pc G K mi av) := fun a U g mk h => ⟨h.1, h.2.1, nc_E_same (s := U) (U := U.calling g mk a) rfl h.2.2⟩
theorem nc_good {y : MethodName} {cc : ByteArray} {maxL : Nat} {ret : Option FieldType} (h : Cond.code y cc maxL ret ∈ nc_U) : GoodIn nc_U (Cond.code y cc maxL ret :: nc_U) := by
  have key : ∀ w ∈ nc_U, w ∈ nc_U ∧ ((w.onTables && w.keeps) = true ∨ ∃ ty, w = .arrayClass ty) := fun w hw => ⟨hw, good_of_word (List.mem_filter.mp hw).2⟩
  intro w hw
  rcases List.mem_cons.mp hw with rfl | hw
  · exact key _ h
  · exact key w hw
theorem nc_good_of {w : Cond} (h : w ∈ nc_U) : w ∈ nc_U ∧ ((w.onTables && w.keeps) = true ∨ ∃ ty, w = .arrayClass ty) := ⟨h, good_of_word (List.mem_filter.mp h).2⟩
-- a call's words
def nc_LV (own : String) (index : Nat) (C : String) (y : MethodName) (bytes : ByteArray) (maxL : Nat) (ret : Option FieldType) (n : Nat) : Prop :=
  Cond.methodLink own index y ∈ nc_U ∧ Cond.instanceMethod y ∈ nc_U ∧ Cond.selects C y y ∈ nc_U ∧ Cond.initialized C ∈ nc_U ∧ Cond.code y bytes maxL ret ∈ nc_U ∧
  (y.cls = C ∧ y.cls ≠ "java/lang/invoke/MethodHandle" ∧ y.cls ≠ "java/lang/invoke/VarHandle" ∧ (parseMethodDescriptor y.desc).map (fun d => d.parameters.length) = some n)
def nc_LS (own : String) (index : Nat) (y : MethodName) (bytes : ByteArray) (maxL : Nat) (ret : Option FieldType) (n : Nat) : Prop :=
  Cond.methodLink own index y ∈ nc_U ∧ Cond.static y ∈ nc_U ∧ Cond.initialized y.cls ∈ nc_U ∧ Cond.code y bytes maxL ret ∈ nc_U ∧
  (y.cls ≠ "java/lang/invoke/MethodHandle" ∧ y.cls ≠ "java/lang/invoke/VarHandle" ∧ (parseMethodDescriptor y.desc).map (fun d => d.parameters.length) = some n)
theorem nc_LV_good {own C : String} {index maxL n : Nat} {y : MethodName} {bytes : ByteArray} {ret : Option FieldType} (h : nc_LV own index C y bytes maxL ret n) : GoodIn nc_U (wsV own index C y (Cond.code y bytes maxL ret :: nc_U)) := by
  obtain ⟨h1, h2, h3, h4, h5, -⟩ := h
  intro w hw
  unfold wsV at hw
  rcases List.mem_append.mp hw with hw | hw
  · simp only [List.mem_cons, List.not_mem_nil, or_false] at hw
    rcases hw with rfl | rfl | rfl | rfl
    · exact nc_good_of h1
    · exact nc_good_of h2
    · exact nc_good_of h3
    · exact nc_good_of h4
  · exact nc_good h5 w hw
theorem nc_LS_good {own : String} {index maxL n : Nat} {y : MethodName} {bytes : ByteArray} {ret : Option FieldType} (h : nc_LS own index y bytes maxL ret n) : GoodIn nc_U (va_wsS own index y (Cond.code y bytes maxL ret :: nc_U)) := by
  obtain ⟨h1, h2, h3, h4, -⟩ := h
  intro w hw
  unfold va_wsS at hw
  rcases List.mem_append.mp hw with hw | hw
  · simp only [List.mem_cons, List.not_mem_nil, or_false] at hw
    rcases hw with rfl | rfl | rfl
    · exact nc_good_of h1
    · exact nc_good_of h2
    · exact nc_good_of h3
  · exact nc_good h4 w hw
-- words of the lifted programs
def nc_let {α β : Type} (e : α) (f : α → β) : β := f e
theorem nc_let_at {α β : Type} {e x : α} {f : α → β} {r : β} (h : nc_let e f = r) (ex : x = e) : f x = r := by subst ex; exact h
def nc_jn {α β : Type} (k : α → β) (f : (α → β) → β) : β := f k
def nc_at {α : Type} (i : Int32) (n : Nat) (f : Nat → Option α) : Option α := if ¬ (i < 0 ∨ n ≤ i.toNatClampNeg) then f i.toNatClampNeg else none
theorem nc_at_of {α : Type} {i : Int32} {n : Nat} {f : Nat → Option α} {r : α} (h : nc_at i n f = some r) : vp_in i n ∧ f i.toNatClampNeg = some r := by
  unfold nc_at at h
  split at h
  · exact ⟨by assumption, h⟩
  · cases h
theorem nc_at_nI {α : Type} {j n : Nat} {f : Nat → Option α} (h : j < n) (hn : n < 2 ^ 31) : nc_at (nI j) n f = f j := by
  unfold nc_at
  rw [if_pos (nI_in h hn), nI_clamp (by omega)]
theorem nc_ifp {α : Type} {c : Prop} {hd : Decidable c} {a b r : α} (h : (if c then a else b) = r) (hc : c) : a = r := by rw [if_pos hc] at h; exact h
theorem nc_ifn {α : Type} {c : Prop} {hd : Decidable c} {a b r : α} (h : (if c then a else b) = r) (hc : ¬ c) : b = r := by rw [if_neg hc] at h; exact h
theorem nc_bi {α β : Type} {o : Option α} {f : α → Option β} {r : β} (h : o.bind f = some r) : ∃ a, o = some a ∧ f a = some r := Option.bind_eq_some_iff.mp h
def nc_nz {α : Type} (v : Int32) (f : Option α) : Option α := if ¬ v = 0 then f else none
theorem nc_nz_of {α : Type} {v : Int32} {f : Option α} {r : α} (h : nc_nz v f = some r) : ¬ v = 0 ∧ f = some r := by
  unfold nc_nz at h
  split at h
  · exact ⟨by assumption, h⟩
  · cases h
def nc_zb {α : Type} (v : Int32) (f : Option α) : Option α := if v = 0 ∨ v = 1 then f else none
theorem nc_zb_of {α : Type} {v : Int32} {f : Option α} {r : α} (h : nc_zb v f = some r) : narrow .boolean (.int v) = .int v ∧ f = some r := by
  unfold nc_zb at h
  split at h
  · refine ⟨?_, h⟩
    rename_i hv
    rcases hv with rfl | rfl <;> rfl
  · cases h
