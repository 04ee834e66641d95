-- A BLOCK IN THE MAKING: from K0.1 on the first i shapes of SN stand, the first j references of RN are set (place, slot, place that it leads to)
def nc_lk (RN : List (Nat × Nat × Nat)) (o k : Nat) : Nat → Nat
  | 0 => 0
  | j + 1 => match RN[j]? with
    | some q => if q.1 = o ∧ q.2.1 = k then q.2.2 + 1 else nc_lk RN o k j
    | none => nc_lk RN o k j
theorem nc_lk_s {RN : List (Nat × Nat × Nat)} {j : Nat} {q : Nat × Nat × Nat} (h : RN[j]? = some q) (o k : Nat) : nc_lk RN o k (j + 1) = if q.1 = o ∧ q.2.1 = k then q.2.2 + 1 else nc_lk RN o k j := by
  show (match RN[j]? with
    | some q => if q.1 = o ∧ q.2.1 = k then q.2.2 + 1 else nc_lk RN o k j
    | none => nc_lk RN o k j) = _
  rw [h]
def nc_kt (SN : List (Nat × Nat)) (RN : List (Nat × Nat × Nat)) (K0 : nc_K) (i j : Nat) : nc_K :=
  (K0.1 + i, (fun a => if K0.1 ≤ a ∧ a < K0.1 + i then SN.getD (a - K0.1) (0, 0) else K0.2.1 a), fun a k => if a < K0.1 then K0.2.2 a k else if nc_lk RN (a - K0.1) k j = 0 then K0.2.2 a k else K0.1 + (nc_lk RN (a - K0.1) k j - 1))
theorem nt_push {SN : List (Nat × Nat)} {RN : List (Nat × Nat × Nat)} {K0 : nc_K} {i j : Nat} {kn : Nat × Nat} (h : SN[i]? = some kn) : nc_kn (nc_kt SN RN K0 i j) kn = nc_kt SN RN K0 (i + 1) j := by
  unfold nc_kn nc_kt
  refine Prod.ext (by show K0.1 + i + 1 = K0.1 + (i + 1); omega) (Prod.ext (funext fun a => ?_) rfl)
  show (if a = K0.1 + i then kn else if K0.1 ≤ a ∧ a < K0.1 + i then SN.getD (a - K0.1) (0, 0) else K0.2.1 a) = if K0.1 ≤ a ∧ a < K0.1 + (i + 1) then SN.getD (a - K0.1) (0, 0) else K0.2.1 a
  by_cases e : a = K0.1 + i
  · rw [if_pos e, if_pos (by omega), show a - K0.1 = i by omega, List.getD_eq_getElem?_getD, h]
    rfl
  · rw [if_neg e]
    by_cases g : K0.1 ≤ a ∧ a < K0.1 + i
    · rw [if_pos g, if_pos (by omega)]
    · rw [if_neg g, if_neg (by omega)]
theorem nt_link {SN : List (Nat × Nat)} {RN : List (Nat × Nat × Nat)} {K0 : nc_K} {i j o k v : Nat} (h : RN[j]? = some (o, k, v)) : nc_kr (nc_kt SN RN K0 i j) (K0.1 + o) k (K0.1 + v) = nc_kt SN RN K0 i (j + 1) := by
  unfold nc_kr nc_kt
  refine Prod.ext rfl (Prod.ext rfl (funext fun a => funext fun k' => ?_))
  show (if a = K0.1 + o ∧ k' = k then K0.1 + v else if a < K0.1 then K0.2.2 a k' else if nc_lk RN (a - K0.1) k' j = 0 then K0.2.2 a k' else K0.1 + (nc_lk RN (a - K0.1) k' j - 1)) = if a < K0.1 then K0.2.2 a k' else if nc_lk RN (a - K0.1) k' (j + 1) = 0 then K0.2.2 a k' else K0.1 + (nc_lk RN (a - K0.1) k' (j + 1) - 1)
  rw [nc_lk_s h]
  by_cases e : a = K0.1 + o ∧ k' = k
  · obtain ⟨rfl, rfl⟩ := e
    rw [if_pos ⟨rfl, rfl⟩, if_neg (by omega), show K0.1 + o - K0.1 = o by omega]
    have e1 : (if (o, k', v).1 = o ∧ (o, k', v).2.1 = k' then (o, k', v).2.2 + 1 else nc_lk RN o k' j) = v + 1 := if_pos ⟨rfl, rfl⟩
    rw [e1, if_neg (by omega)]
    omega
  · rw [if_neg e]
    by_cases g : a < K0.1
    · rw [if_pos g, if_pos g]
    · rw [if_neg g, if_neg g]
      have hne : ¬ (o = a - K0.1 ∧ k = k') := fun q => e ⟨by omega, q.2.symm⟩
      rw [if_neg (show ¬ ((o, k, v).1 = a - K0.1 ∧ (o, k, v).2.1 = k') from hne)]
theorem nt_grid {SN : List (Nat × Nat)} {RN : List (Nat × Nat × Nat)} {K0 : nc_K} {i j n k : Nat} (h0 : SN[i]? = some (13, n)) (h1 : ∀ q, q < n → SN[i + 1 + q]? = some (9, k)) (h2 : ∀ q, q < n → RN[j + q]? = some (i, q, i + 1 + q)) (h3 : ∀ k', nc_lk RN i k' j = 0) (hz : ∀ a k', K0.1 ≤ a → K0.2.2 a k' = 0) : nc_kg (nc_kt SN RN K0 i j) n k = nc_kt SN RN K0 (i + 1 + n) (j + n) := by
  have key : ∀ o k' n', n' ≤ n → nc_lk RN o k' (j + n') = if o = i ∧ k' < n' then i + 1 + k' + 1 else nc_lk RN o k' j := by
    intro o k' n'
    induction n' with
    | zero => intro _; simp
    | succ n' ih =>
      intro hn
      rw [← Nat.add_assoc, nc_lk_s (h2 n' (by omega)), ih (by omega)]
      by_cases e : i = o ∧ n' = k'
      · rw [if_pos e, if_pos (by omega)]
        obtain ⟨rfl, rfl⟩ := e
        rfl
      · rw [if_neg e]
        by_cases g : o = i ∧ k' < n'
        · rw [if_pos g, if_pos (by omega)]
        · rw [if_neg g, if_neg (by omega)]
  unfold nc_kg
  refine Prod.ext (by show K0.1 + i + 1 + n = K0.1 + (i + 1 + n); omega) (Prod.ext (funext fun a => ?_) (funext fun a => funext fun k' => ?_))
  · show (if a = K0.1 + i then (13, n) else if K0.1 + i < a ∧ a < K0.1 + i + 1 + n then (9, k) else if K0.1 ≤ a ∧ a < K0.1 + i then SN.getD (a - K0.1) (0, 0) else K0.2.1 a) = if K0.1 ≤ a ∧ a < K0.1 + (i + 1 + n) then SN.getD (a - K0.1) (0, 0) else K0.2.1 a
    by_cases e : a = K0.1 + i
    · rw [if_pos e, if_pos (by omega), show a - K0.1 = i by omega, List.getD_eq_getElem?_getD, h0]
      rfl
    · rw [if_neg e]
      by_cases g : K0.1 + i < a ∧ a < K0.1 + i + 1 + n
      · rw [if_pos g, if_pos (by omega), List.getD_eq_getElem?_getD, show a - K0.1 = i + 1 + (a - K0.1 - i - 1) by omega, h1 _ (by omega)]
        rfl
      · rw [if_neg g]
        by_cases g2 : K0.1 ≤ a ∧ a < K0.1 + i
        · rw [if_pos g2, if_pos (by omega)]
        · rw [if_neg g2, if_neg (by omega)]
  · show (if a = K0.1 + i ∧ k' < n then K0.1 + i + 1 + k' else if a < K0.1 then K0.2.2 a k' else if nc_lk RN (a - K0.1) k' j = 0 then K0.2.2 a k' else K0.1 + (nc_lk RN (a - K0.1) k' j - 1)) = if a < K0.1 then K0.2.2 a k' else if nc_lk RN (a - K0.1) k' (j + n) = 0 then K0.2.2 a k' else K0.1 + (nc_lk RN (a - K0.1) k' (j + n) - 1)
    rw [key _ _ n (Nat.le_refl _)]
    by_cases e : a = K0.1 + i ∧ k' < n
    · rw [if_pos e, if_neg (by omega), show a - K0.1 = i by omega]
      have e1 : (if i = i ∧ k' < n then i + 1 + k' + 1 else nc_lk RN i k' j) = i + 1 + k' + 1 := if_pos ⟨rfl, e.2⟩
      rw [e1, if_neg (by omega)]
      omega
    · rw [if_neg e]
      by_cases g : a < K0.1
      · rw [if_pos g, if_pos g]
      · rw [if_neg g, if_neg g]
        have e1 : (if a - K0.1 = i ∧ k' < n then i + 1 + k' + 1 else nc_lk RN (a - K0.1) k' j) = nc_lk RN (a - K0.1) k' j := if_neg (fun q => e ⟨by omega, q.2⟩)
        rw [e1]
theorem nt_is {G : nc_G} {SN : List (Nat × Nat)} {RN : List (Nat × Nat × Nat)} {K0 : nc_K} {i j o : Nat} {kn : Nat × Nat} (hB : G.2.2.1 ≤ K0.1) (ho : o < i) (h : SN[o]? = some kn) : nc_Is G (nc_kt SN RN K0 i j) (K0.1 + o) kn := by
  refine ⟨by omega, by show K0.1 + o < K0.1 + i; omega, ?_⟩
  show (if K0.1 ≤ K0.1 + o ∧ K0.1 + o < K0.1 + i then SN.getD (K0.1 + o - K0.1) (0, 0) else K0.2.1 (K0.1 + o)) = kn
  rw [if_pos (by omega), show K0.1 + o - K0.1 = o by omega, List.getD_eq_getElem?_getD, h]
  rfl
theorem nt_mr {SN : List (Nat × Nat)} {RN : List (Nat × Nat × Nat)} {K0 : nc_K} {i j o k v : Nat} (h : nc_lk RN o k j = v + 1) : (nc_kt SN RN K0 i j).2.2 (K0.1 + o) k = K0.1 + v := by
  show (if K0.1 + o < K0.1 then K0.2.2 (K0.1 + o) k else if nc_lk RN (K0.1 + o - K0.1) k j = 0 then K0.2.2 (K0.1 + o) k else K0.1 + (nc_lk RN (K0.1 + o - K0.1) k j - 1)) = K0.1 + v
  rw [if_neg (by omega), show K0.1 + o - K0.1 = o by omega, h, if_neg (by omega)]
  simp
theorem nt_0 {SN : List (Nat × Nat)} {RN : List (Nat × Nat × Nat)} {K0 : nc_K} : nc_kt SN RN K0 0 0 = K0 := by
  unfold nc_kt
  refine Prod.ext rfl (Prod.ext (funext fun a => ?_) (funext fun a => funext fun k => ?_))
  · show (if K0.1 ≤ a ∧ a < K0.1 + 0 then _ else K0.2.1 a) = K0.2.1 a
    rw [if_neg (by omega)]
  · show (if a < K0.1 then K0.2.2 a k else if nc_lk RN (a - K0.1) k 0 = 0 then K0.2.2 a k else _) = K0.2.2 a k
    rw [if_pos (show nc_lk RN (a - K0.1) k 0 = 0 from rfl)]
    simp
section NTR
variable {p : Program} {l : Launch} {e : Env} {R : Room} {s : State} {m : MethodId} {args : Array Value} {below : List Frame} {meth : Method} {c : Code} {H : Heap} {locs : List Loc} {cells slots : Nat} {Q : State → Prop}
variable {cc : ByteArray} {pc nL : Nat} {ls : Array Slot} {rest : List Value} {own : String} {G : nc_G} {K0 : nc_K} {mi : nc_Mem} {SN : List (Nat × Nat)} {RN : List (Nat × Nat × Nat)} {i j : Nat}
theorem nt_new (cx : nc_C p s m args c cc nL own G) (hw : nc_W G (nc_kt SN RN K0 i j) mi H locs) {ci N index : Nat} {C : String} {T : u_T} (hs : SN[i]? = some (ci, N)) (hc : nc_cl[ci]? = some (C, T, N)) (w1 : Cond.classLink own index C ∈ nc_U) (w2 : Cond.instantiable C N ∈ nc_U) (w3 : Cond.initialized C ∈ nc_U) (hR : cells + 1 ≤ R.cells ∧ slots + N ≤ R.slots) (hdg : decode cc pc = .ok (.new index, 3))
    (kk : ∀ (H1 : Heap), nc_W G (nc_kt SN RN K0 (i + 1) j) mi H1 locs → W p l e R s m args below meth c H1 locs (cells + 1) (slots + N) Q (F0 m (pc + 3) ls (.ref (K0.1 + i) :: rest))) : W p l e R s m args below meth c H locs cells slots Q (F0 m pc ls rest) :=
  nc_new cx hw hc w1 w2 w3 hR hdg (fun K1 H1 eK hw1 => kk H1 (by rw [← nt_push hs, ← eK]; exact hw1))
theorem nt_int (cx : nc_C p s m args c cc nL own G) (hw : nc_W G (nc_kt SN RN K0 i j) mi H locs) {n : Int32} {N : Nat} (hs : SN[i]? = some (9, N)) (w1 : Cond.arrayClass .int ∈ nc_U) (hn : ¬ n < 0) (hN : n.toNatClampNeg = N) (hby : N * 4 ≤ 536870912) (hR : cells + 1 ≤ R.cells ∧ slots + N ≤ R.slots) (hdg : decode cc pc = .ok (.newarray .int, 2))
    (kk : ∀ (H1 : Heap), nc_W G (nc_kt SN RN K0 (i + 1) j) mi H1 locs → W p l e R s m args below meth c H1 locs (cells + 1) (slots + N) Q (F0 m (pc + 2) ls (.ref (K0.1 + i) :: rest))) : W p l e R s m args below meth c H locs cells slots Q (F0 m pc ls (.int n :: rest)) :=
  nc_nint cx hw w1 hn hN hby hR hdg (fun K1 H1 eK hw1 => kk H1 (by rw [← nt_push hs, ← eK]; exact hw1))
theorem nt_ref (cx : nc_C p s m args c cc nL own G) (hw : nc_W G (nc_kt SN RN K0 i j) mi H locs) {n : Int32} {N index ki t0 : Nat} {C : String} (hs : SN[i]? = some (ki, N)) (hki : 9 < ki) (w1 : Cond.classLink own index C ∈ nc_U) (hC : C ∈ [RX3, RX4, RX6]) (ht : (nc_tys G.2.1)[t0]? = some (G.2.1 ki, .object C)) (hn : ¬ n < 0) (hN : n.toNatClampNeg = N) (hby : N * 4 ≤ 536870912) (hR : cells + 1 ≤ R.cells ∧ slots + N ≤ R.slots) (hdg : decode cc pc = .ok (.anewarray index, 3))
    (kk : ∀ (H1 : Heap), nc_W G (nc_kt SN RN K0 (i + 1) j) mi H1 locs → W p l e R s m args below meth c H1 locs (cells + 1) (slots + N) Q (F0 m (pc + 3) ls (.ref (K0.1 + i) :: rest))) : W p l e R s m args below meth c H locs cells slots Q (F0 m pc ls (.int n :: rest)) :=
  nc_nref cx hw hki w1 hC ht hn hN hby hR hdg (fun K1 H1 eK hw1 => kk H1 (by rw [← nt_push hs, ← eK]; exact hw1))
theorem nt_mna (cx : nc_C p s m args c cc nL own G) (hw : nc_W G (nc_kt SN RN K0 i j) mi H locs) (hz : ∀ a k', K0.1 ≤ a → K0.2.2 a k' = 0) {n k : Int32} {N M index : Nat} (h0 : SN[i]? = some (13, N)) (h1 : ∀ q, q < N → SN[i + 1 + q]? = some (9, M)) (h2 : ∀ q, q < N → RN[j + q]? = some (i, q, i + 1 + q)) (h3 : ∀ k', nc_lk RN i k' j = 0) (w1 : Cond.classLink own index "[[I" ∈ nc_U) (w2 : Cond.arrayClass .int ∈ nc_U) (hn : ¬ n < 0) (hk : ¬ k < 0) (hN : n.toNatClampNeg = N) (hM : k.toNatClampNeg = M) (hb1 : N * 4 ≤ 536870912) (hb2 : M * 4 ≤ 536870912) (hR : cells + (1 + N) ≤ R.cells ∧ slots + (N + N * M) ≤ R.slots) (hdg : decode cc pc = .ok (.multianewarray index 2, 4))
    (kk : ∀ (H1 : Heap), nc_W G (nc_kt SN RN K0 (i + 1 + N) (j + N)) mi H1 locs → W p l e R s m args below meth c H1 locs (cells + 1 + N) (slots + N + N * M) Q (F0 m (pc + 4) ls (.ref (K0.1 + i) :: rest))) : W p l e R s m args below meth c H locs cells slots Q (F0 m pc ls (.int k :: .int n :: rest)) :=
  nc_mna cx hw w1 w2 hn hk hN hM hb1 hb2 hR hdg (fun K1 H1 eK hw1 => kk H1 (by rw [← nt_grid h0 h1 h2 h3 hz, ← eK]; exact hw1))
theorem nt_putF (cx : nc_C p s m args c cc nL own G) (hB : G.2.2.1 ≤ K0.1) (hw : nc_W G (nc_kt SN RN K0 i j) mi H locs) {ci k N index o v : Nat} {C : String} {T : u_T} {ty : FieldType} (hl : RN[j]? = some (o, k, v)) (ho : o < i) (hs : SN[o]? = some (ci, N)) (hc : nc_cl[ci]? = some (C, T, N)) (hk : k < N) (hr : nc_isR ci k = true) (hfin : (T k).2.2.2 = true) (hdecl : (T k).1 = own) (hin : meth.name = "<init>") (hd : parseFieldDescriptor (T k).2.2.1 = some ty) (hn : narrow ty (.ref (K0.1 + v)) = .ref (K0.1 + v)) (hfit : fits ty (.ref (K0.1 + v)) = true) (hm : Cond.fieldLink own index (T k).1 (T k).2.1 (T k).2.2.1 ∈ nc_U) (hdg : decode cc pc = .ok (.putfield index, 3))
    (kk : ∀ (H1 : Heap) (locs1 : List Loc), nc_W G (nc_kt SN RN K0 i (j + 1)) mi H1 locs1 → W p l e R s m args below meth c H1 locs1 cells slots Q (F0 m (pc + 3) ls rest)) : W p l e R s m args below meth c H locs cells slots Q (F0 m pc ls (.ref (K0.1 + v) :: .ref (K0.1 + o) :: rest)) :=
  nc_putF cx hw hc hk hr hfin hdecl hin hd hn hfit hm (nt_is hB ho hs) (by have := hw.2.1; omega) hdg (fun K1 H1 locs1 eK hw1 => kk H1 locs1 (by rw [← nt_link hl, ← eK]; exact hw1))
theorem nt_aast (cx : nc_C p s m args c cc nL own G) (hB : G.2.2.1 ≤ K0.1) (hw : nc_W G (nc_kt SN RN K0 i j) mi H locs) {o n ki t0 ci N v q : Nat} {x : Int32} {C : String} {T : u_T} (hl : RN[j]? = some (o, q, v)) (ho : o < i) (hv : v < i) (hs : SN[o]? = some (ki, n)) (hs2 : SN[v]? = some (ci, N)) (hki : 9 < ki) (ht : (nc_tys G.2.1)[t0]? = some (G.2.1 ki, .object C)) (hc : nc_cl[ci]? = some (C, T, N)) (hin : vp_in x n) (hq : q = x.toNatClampNeg) (hdg : decode cc pc = .ok (.aastore, 1))
    (kk : ∀ (H1 : Heap) (locs1 : List Loc), nc_W G (nc_kt SN RN K0 i (j + 1)) mi H1 locs1 → W p l e R s m args below meth c H1 locs1 cells slots Q (F0 m (pc + 1) ls rest)) : W p l e R s m args below meth c H locs cells slots Q (F0 m pc ls (.ref (K0.1 + v) :: .int x :: .ref (K0.1 + o) :: rest)) :=
  nc_aast cx hw hki ht hc (nt_is hB ho hs) (nt_is hB hv hs2) hin hq hdg (fun K1 H1 locs1 eK hw1 => kk H1 locs1 (by rw [← nt_link hl, ← eK]; exact hw1))
end NTR
