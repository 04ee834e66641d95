-- TOWN: persons and things are heard
section HP
variable {S : nc_S} {n pl ps th b R M : Nat}
theorem s_rP_lt {v : Nat → Int32} {k : Nat} (h : k < 5) : s_rP v k = v k := by
  unfold s_rP
  rw [if_neg (by omega), if_neg (by omega)]
theorem HS_p (ws : s_wf S n pl ps th) (hs : s_sym S) (hR : b + 17 ≤ R) {v0 v1 v2 v3 v4 : Nat} (h0 : v0 < 10) (h1 : v1 < 10) (h2 : v2 < 1000) (h3 : v3 < 10) (h4 : v4 < 10) : nc_HS n S b R M 112 [nI v0, nI v1, nI v2, nI v3, nI v4] := by
  obtain ⟨w1, w2, w3, w4, w5, w6, w7, w8, w9, w10, w11⟩ := id ws
  have rd : ∀ (A : Nat) (m : nc_Mem), nc_nC A [nI v0, nI v1, nI v2, nI v3, nI v4] m → m A 0 = nI v0 ∧ m A 1 = nI v1 ∧ m A 2 = nI v2 ∧ m A 3 = nI v3 ∧ m A 4 = nI v4 := fun A m hn => ⟨hn 0 (by simp), hn 1 (by simp), hn 2 (by simp), hn 3 (by simp), hn 4 (by simp)⟩
  have rw' : ∀ (A : Nat) (m : nc_Mem), nc_nC A [nI v0, nI v1, nI v2, nI v3, nI v4] m → ∀ k, k < 7 → s_rP (fun i => m A i) k = s_rP (fun i => [nI v0, nI v1, nI v2, nI v3, nI v4].getD i 0) k := fun A m hn k hk => by
    unfold s_rP
    by_cases c5 : k = 5
    · rw [if_pos c5, if_pos c5]
      exact hn 0 (by simp)
    · rw [if_neg c5, if_neg c5]
      by_cases c6 : k = 6
      · rw [if_pos c6, if_pos c6]
        exact hn 2 (by simp)
      · rw [if_neg c6, if_neg c6]
        exact hn k (show k < 5 by omega)
  by_cases c : (ps < 6 ∧ v0 < pl) ∧ v1 < pl ∧ v2 ≤ 720
  · obtain ⟨⟨c0, c1⟩, c2, c3⟩ := c
    refine Or.inl ⟨s_addP S ps (s_rP (fun i => [nI v0, nI v1, nI v2, nI v3, nI v4].getD i 0)), ⟨⟨pl, ps + 1, th, w1, w2, w3, rfl, c0, w6, w7, w8, w9, fun p hp => ?_, fun t ht => ?_⟩, hs⟩, fun m hm hn => ?_, fun m hm hn => ?_⟩
    · by_cases e : p = ps
      · have g : ∀ k, k < 7 → s_P (s_addP S ps (s_rP (fun i => [nI v0, nI v1, nI v2, nI v3, nI v4].getD i 0))) p k = s_rP (fun i => [nI v0, nI v1, nI v2, nI v3, nI v4].getD i 0) k := fun k hk => if_pos ⟨e, hk⟩
        unfold s_okP
        rw [g 0 (by omega), g 1 (by omega), g 2 (by omega), g 3 (by omega), g 4 (by omega), g 5 (by omega), g 6 (by omega)]
        exact ⟨⟨v0, c1, rfl⟩, ⟨v1, c2, rfl⟩, ⟨v2, by omega, rfl⟩, ⟨v3, h3, rfl⟩, ⟨v4, h4, rfl⟩, ⟨v0, c1, rfl⟩, ⟨v2, by unfold nc_bd; omega, rfl⟩⟩
      · have g : ∀ k, s_P (s_addP S ps (s_rP (fun i => [nI v0, nI v1, nI v2, nI v3, nI v4].getD i 0))) p k = s_P S p k := fun k => if_neg (fun z => e z.1)
        unfold s_okP
        rw [g 0, g 1, g 2, g 3, g 4, g 5, g 6]
        exact w10 p (by omega)
    · obtain ⟨a0, a1, a2, a3, a4, a5, a6, a7, a8, a9⟩ := w11 t ht
      refine ⟨nc_ok_mono a0 (by omega), nc_ok_mono a1 (by omega), a2, a3, a4, a5, a6, a7.imp id (fun ⟨⟨q, hq, e⟩, z⟩ => ⟨⟨q, by omega, e⟩, z⟩), a8, a9⟩
    · have hpl : m b 4 = nI pl := (congrArg s_pl hm).trans w1
      have hps : m b 5 = nI ps := (congrArg s_ps hm).trans w4
      obtain ⟨n0, n1, n2, n3, n4⟩ := rd R m hn
      obtain ⟨m', e, hv⟩ := C_hp_mem (m := m) hR c0 hps
      have hv' : ∀ a k, m' a k = if a = b + 5 + ps ∧ k < 7 then s_rP (fun i => [nI v0, nI v1, nI v2, nI v3, nI v4].getD i 0) k else if a = b ∧ k = 5 then nI (ps + 1) else m a k := fun a k => by
        rw [hv]
        by_cases y : a = b + 5 + ps ∧ k < 7
        · rw [if_pos y, if_pos y, rw' R m hn k y.2]
        · rw [if_neg y, if_neg y]
      refine ⟨m', ?_, by rw [vC_aP c0 hv', hm], fun a k ha => by rw [hv', if_neg (by omega), if_neg (by omega)]⟩
      rw [hear_p]
      refine zb_1 ?_
      unfold f_X5_hearPerson
      rw [hps, if_neg (show ¬ 6 ≤ nI ps from nI_ge (b := 6) c0 (by omega)), n0, n1, n2, C_L' hpl w3 (by omega), C_L' hpl w3 (by omega), if_pos c1, if_pos c2, if_neg (by decide), if_neg (by decide), if_pos (show nI v2 ≤ 720 from nI_le (b := 720) c3 (by omega)), nc_at_nI c0 (by omega), ← n0]
      exact e
    · have hpl : m M 5 = nI pl := (congrArg s_pl hm).trans w1
      have hps : m M 7 = nI ps := (congrArg s_ps hm).trans w4
      obtain ⟨n0, n1, n2, n3, n4⟩ := rd (M + 26) m hn
      obtain ⟨m', e, hv⟩ := M_hp_mem (m := m) (M := M) c0 hps
      have hv' : ∀ a k, m' a k = if a = M + 13 + ps ∧ k < 7 then s_rP (fun i => [nI v0, nI v1, nI v2, nI v3, nI v4].getD i 0) k else if a = M ∧ k = 7 then nI (ps + 1) else m a k := fun a k => by
        rw [hv]
        by_cases y : a = M + 13 + ps ∧ k < 7
        · rw [if_pos y, if_pos y, rw' (M + 26) m hn k y.2]
        · rw [if_neg y, if_neg y]
      refine ⟨m', ?_, by rw [vM_aP c0 hv', hm], fun a k ha => by rw [hv', if_neg (by omega), if_neg (by omega)]⟩
      rw [comes_p]
      refine zb_1 ?_
      unfold f_X8_personComes
      rw [n0, n1, n2, M_L' hpl w3 (by omega), nc_some_bind, if_pos c1, if_neg (by decide), M_L' hpl w3 (by omega), nc_some_bind, if_pos c2, if_neg (by decide), if_neg (show ¬ 720 < nI v2 from fun z => absurd ((nI_ltI (a := 720) (by omega) (by omega)).mp z) (by omega)), hps, if_neg (show ¬ nI ps = 6 from fun z => absurd ((nI_eq (b := 6) (by omega) (by omega)).mp z) (by omega)), nI_1, nc_let_eq, nc_at_nI c0 (by omega), nc_let_eq]
      exact e
  · refine Or.inr ⟨fun m hm hn => ?_, fun m hm hn => ?_⟩
    · have hpl : m b 4 = nI pl := (congrArg s_pl hm).trans w1
      have hps : m b 5 = nI ps := (congrArg s_ps hm).trans w4
      obtain ⟨n0, n1, n2, n3, n4⟩ := rd R m hn
      rw [hear_p]
      refine zb_0 ?_
      unfold f_X5_hearPerson
      rw [hps, n0, n1, n2, C_L' hpl w3 (by omega), C_L' hpl w3 (by omega)]
      by_cases c0 : ps < 6
      · rw [if_neg (show ¬ 6 ≤ nI ps from nI_ge (b := 6) c0 (by omega))]
        by_cases c1 : v0 < pl
        · rw [if_pos c1, if_neg (by decide)]
          by_cases c2 : v1 < pl
          · rw [if_pos c2, if_neg (by decide), if_neg (show ¬ nI v2 ≤ 720 from fun z => c ⟨⟨c0, c1⟩, c2, (nI_leI (b := 720) (by omega) (by omega)).mp z⟩)]
          · rw [if_neg c2, if_pos rfl]
        · rw [if_neg c1, if_pos rfl]
      · rw [if_pos (show 6 ≤ nI ps from nI_le (a := 6) (by omega) (by omega))]
    · have hpl : m M 5 = nI pl := (congrArg s_pl hm).trans w1
      have hps : m M 7 = nI ps := (congrArg s_ps hm).trans w4
      obtain ⟨n0, n1, n2, n3, n4⟩ := rd (M + 26) m hn
      rw [comes_p]
      refine zb_0 ?_
      unfold f_X8_personComes
      rw [n0, n1, n2, M_L' hpl w3 (by omega), nc_some_bind]
      by_cases c1 : v0 < pl
      · rw [if_pos c1, if_neg (by decide), M_L' hpl w3 (by omega), nc_some_bind]
        by_cases c2 : v1 < pl
        · rw [if_pos c2, if_neg (by decide)]
          by_cases c3 : 720 < nI v2
          · rw [if_pos c3]
          · rw [if_neg c3, hps, if_pos (show nI ps = 6 from ?_)]
            have : ps = 6 := by
              by_cases c0 : ps < 6
              · exact absurd ⟨⟨c0, c1⟩, c2, Nat.le_of_not_lt (fun y => c3 ((nI_ltI (a := 720) (by omega) (by omega)).mpr y))⟩ c
              · omega
            rw [this]
            rfl
        · rw [if_neg c2, if_pos rfl]
      · rw [if_neg c1, if_pos rfl]
theorem HS_t (ws : s_wf S n pl ps th) (hs : s_sym S) (hR : b + 17 ≤ R) {v0 v1 v2 v3 v4 v5 v6 : Nat} (h0 : v0 < 10) (h1 : v1 < 10) (h2 : v2 < 10) (h3 : v3 < 10) (h4 : v4 < 10) (h5 : v5 < 1000) (h6 : v6 < 100) : nc_HS n S b R M 116 [nI v0, nI v1, nI v2, nI v3, nI v4, nI v5, nI v6] := by
  obtain ⟨w1, w2, w3, w4, w5, w6, w7, w8, w9, w10, w11⟩ := id ws
  have rd : ∀ (A : Nat) (m : nc_Mem), nc_nC A [nI v0, nI v1, nI v2, nI v3, nI v4, nI v5, nI v6] m → m A 0 = nI v0 ∧ m A 1 = nI v1 ∧ m A 2 = nI v2 ∧ m A 3 = nI v3 ∧ m A 4 = nI v4 := fun A m hn => ⟨hn 0 (by simp), hn 1 (by simp), hn 2 (by simp), hn 3 (by simp), hn 4 (by simp)⟩
  have rw' : ∀ (A : Nat) (m : nc_Mem), nc_nC A [nI v0, nI v1, nI v2, nI v3, nI v4, nI v5, nI v6] m → ∀ k, k < 10 → s_rT (fun i => m A i) k = s_rT (fun i => [nI v0, nI v1, nI v2, nI v3, nI v4, nI v5, nI v6].getD i 0) k := fun A m hn k hk => by
    unfold s_rT
    by_cases c7 : k = 7
    · rw [if_pos c7, if_pos c7]
      exact hn 2 (by simp)
    · rw [if_neg c7, if_neg c7]
      by_cases c8 : k = 8
      · rw [if_pos c8, if_pos c8]
      · rw [if_neg c8, if_neg c8]
        by_cases c9 : k = 9
        · rw [if_pos c9, if_pos c9]
        · rw [if_neg c9, if_neg c9]
          exact hn k (show k < 7 by omega)
  by_cases c : (th < 6 ∧ v0 < ps ∧ v1 < ps) ∧ (v2 < pl ∧ v3 < pl) ∧ 1 ≤ v4
  · obtain ⟨⟨c0, c1, c2⟩, ⟨c3, c4⟩, c5⟩ := c
    refine Or.inl ⟨s_addT S th (s_rT (fun i => [nI v0, nI v1, nI v2, nI v3, nI v4, nI v5, nI v6].getD i 0)), ⟨⟨pl, ps, th + 1, w1, w2, w3, w4, w5, rfl, c0, w8, w9, w10, fun t ht => ?_⟩, hs⟩, fun m hm hn => ?_, fun m hm hn => ?_⟩
    · by_cases e : t = th
      · have g : ∀ k, k < 10 → s_T (s_addT S th (s_rT (fun i => [nI v0, nI v1, nI v2, nI v3, nI v4, nI v5, nI v6].getD i 0))) t k = s_rT (fun i => [nI v0, nI v1, nI v2, nI v3, nI v4, nI v5, nI v6].getD i 0) k := fun k hk => if_pos ⟨e, hk⟩
        unfold s_okT
        rw [g 0 (by omega), g 1 (by omega), g 2 (by omega), g 3 (by omega), g 4 (by omega), g 5 (by omega), g 6 (by omega), g 7 (by omega), g 8 (by omega), g 9 (by omega)]
        exact ⟨⟨v0, c1, rfl⟩, ⟨v1, c2, rfl⟩, ⟨v2, c3, rfl⟩, ⟨v3, c4, rfl⟩, ⟨v4, h4, rfl⟩, ⟨v5, h5, rfl⟩, ⟨v6, h6, rfl⟩, Or.inl ⟨v2, c3, rfl⟩, ⟨0, by unfold nc_bd; omega, rfl⟩, Or.inl rfl⟩
      · have g : ∀ k, s_T (s_addT S th (s_rT (fun i => [nI v0, nI v1, nI v2, nI v3, nI v4, nI v5, nI v6].getD i 0))) t k = s_T S t k := fun k => if_neg (fun z => e z.1)
        unfold s_okT
        rw [g 0, g 1, g 2, g 3, g 4, g 5, g 6, g 7, g 8, g 9]
        exact w11 t (by omega)
    · have hpl : m b 4 = nI pl := (congrArg s_pl hm).trans w1
      have hps : m b 5 = nI ps := (congrArg s_ps hm).trans w4
      have hth : m b 6 = nI th := (congrArg s_th hm).trans w6
      obtain ⟨n0, n1, n2, n3, n4⟩ := rd R m hn
      obtain ⟨m', e, hv⟩ := C_ht_mem (m := m) hR c0 hth
      have hv' : ∀ a k, m' a k = if a = b + 11 + th ∧ k < 10 then s_rT (fun i => [nI v0, nI v1, nI v2, nI v3, nI v4, nI v5, nI v6].getD i 0) k else if a = b ∧ k = 6 then nI (th + 1) else m a k := fun a k => by
        rw [hv]
        by_cases y : a = b + 11 + th ∧ k < 10
        · rw [if_pos y, if_pos y, rw' R m hn k y.2]
        · rw [if_neg y, if_neg y]
      refine ⟨m', ?_, by rw [vC_aT c0 hv', hm], fun a k ha => by rw [hv', if_neg (by omega), if_neg (by omega)]⟩
      rw [hear_t]
      refine zb_1 ?_
      unfold f_X5_hearThing
      rw [hth, if_neg (show ¬ 6 ≤ nI th from nI_ge (b := 6) c0 (by omega)), n0, n1, n2, n3, n4, C_P' hps w5 (by omega), C_P' hps w5 (by omega), C_L' hpl w3 (by omega), C_L' hpl w3 (by omega), if_pos c1, if_neg (by decide), if_pos c2, if_neg (by decide), if_pos c3, if_neg (by decide), if_pos c4, if_neg (by decide), if_pos (show 1 ≤ nI v4 from nI_le (a := 1) c5 (by omega)), nc_at_nI c0 (by omega), ← n0]
      exact e
    · have hpl : m M 5 = nI pl := (congrArg s_pl hm).trans w1
      have hps : m M 7 = nI ps := (congrArg s_ps hm).trans w4
      have hth : m M 9 = nI th := (congrArg s_th hm).trans w6
      obtain ⟨n0, n1, n2, n3, n4⟩ := rd (M + 26) m hn
      obtain ⟨m', e, hv⟩ := M_ht_mem (m := m) (M := M) c0 hth
      have hv' : ∀ a k, m' a k = if a = M + 20 + th ∧ k < 10 then s_rT (fun i => [nI v0, nI v1, nI v2, nI v3, nI v4, nI v5, nI v6].getD i 0) k else if a = M ∧ k = 9 then nI (th + 1) else m a k := fun a k => by
        rw [hv]
        by_cases y : a = M + 20 + th ∧ k < 10
        · rw [if_pos y, if_pos y, rw' (M + 26) m hn k y.2]
        · rw [if_neg y, if_neg y]
      refine ⟨m', ?_, by rw [vM_aT c0 hv', hm], fun a k ha => by rw [hv', if_neg (by omega), if_neg (by omega)]⟩
      rw [comes_t]
      refine zb_1 ?_
      unfold f_X8_thingComes
      rw [n0, M_P' hps w5 (by omega), nc_some_bind, if_pos c1, nc_let_eq, if_neg (by decide), n1, M_P' hps w5 (by omega), nc_some_bind, if_pos c2, if_neg (by decide), n2, M_L' hpl w3 (by omega), nc_some_bind, if_pos c3, if_neg (by decide), n3, M_L' hpl w3 (by omega), nc_some_bind, if_pos c4, if_neg (by decide)]
      show (if (1 : Int32) = 0 then some (m, 0) else if m (M + 26) 4 < 1 then some (m, 0) else if m M 9 = 6 then some (m, 0) else _) = _
      rw [if_neg (by decide), n4, if_neg (show ¬ nI v4 < 1 from fun z => absurd ((nI_ltI (b := 1) (by omega) (by omega)).mp z) (by omega)), hth, if_neg (show ¬ nI th = 6 from fun z => absurd ((nI_eq (b := 6) (by omega) (by omega)).mp z) (by omega)), nI_1, nc_let_eq, nc_at_nI c0 (by omega), nc_let_eq]
      exact e
  · refine Or.inr ⟨fun m hm hn => ?_, fun m hm hn => ?_⟩
    · have hpl : m b 4 = nI pl := (congrArg s_pl hm).trans w1
      have hps : m b 5 = nI ps := (congrArg s_ps hm).trans w4
      have hth : m b 6 = nI th := (congrArg s_th hm).trans w6
      obtain ⟨n0, n1, n2, n3, n4⟩ := rd R m hn
      rw [hear_t]
      refine zb_0 ?_
      unfold f_X5_hearThing
      rw [hth, n0, n1, n2, n3, n4, C_P' hps w5 (by omega), C_P' hps w5 (by omega), C_L' hpl w3 (by omega), C_L' hpl w3 (by omega)]
      by_cases c0 : th < 6
      · rw [if_neg (show ¬ 6 ≤ nI th from nI_ge (b := 6) c0 (by omega))]
        by_cases c1 : v0 < ps
        · rw [if_pos c1, if_neg (by decide)]
          by_cases c2 : v1 < ps
          · rw [if_pos c2, if_neg (by decide)]
            by_cases c3 : v2 < pl
            · rw [if_pos c3, if_neg (by decide)]
              by_cases c4 : v3 < pl
              · rw [if_pos c4, if_neg (by decide), if_neg (show ¬ 1 ≤ nI v4 from fun z => c ⟨⟨c0, c1, c2⟩, ⟨c3, c4⟩, (nI_leI (a := 1) (by omega) (by omega)).mp z⟩)]
              · rw [if_neg c4, if_pos rfl]
            · rw [if_neg c3, if_pos rfl]
          · rw [if_neg c2, if_pos rfl]
        · rw [if_neg c1, if_pos rfl]
      · rw [if_pos (show 6 ≤ nI th from nI_le (a := 6) (by omega) (by omega))]
    · have hpl : m M 5 = nI pl := (congrArg s_pl hm).trans w1
      have hps : m M 7 = nI ps := (congrArg s_ps hm).trans w4
      have hth : m M 9 = nI th := (congrArg s_th hm).trans w6
      obtain ⟨n0, n1, n2, n3, n4⟩ := rd (M + 26) m hn
      rw [comes_t]
      refine zb_0 ?_
      unfold f_X8_thingComes
      rw [n0, M_P' hps w5 (by omega), nc_some_bind, nc_let_eq]
      by_cases c1 : v0 < ps
      · rw [if_pos c1, if_neg (by decide), n1, M_P' hps w5 (by omega), nc_some_bind]
        by_cases c2 : v1 < ps
        · rw [if_pos c2, if_neg (by decide), n2, M_L' hpl w3 (by omega), nc_some_bind]
          by_cases c3 : v2 < pl
          · rw [if_pos c3, if_neg (by decide), n3, M_L' hpl w3 (by omega), nc_some_bind]
            by_cases c4 : v3 < pl
            · rw [if_pos c4, if_neg (by decide)]
              show (if (1 : Int32) = 0 then some (m, 0) else if m (M + 26) 4 < 1 then some (m, 0) else if m M 9 = 6 then some (m, 0) else _) = _
              rw [if_neg (by decide), n4]
              by_cases c5 : nI v4 < 1
              · rw [if_pos c5]
              · rw [if_neg c5, hth, if_pos (show nI th = 6 from ?_)]
                have : th = 6 := by
                  by_cases c0 : th < 6
                  · exact absurd ⟨⟨c0, c1, c2⟩, ⟨c3, c4⟩, Nat.le_of_not_lt (fun y => c5 ((nI_ltI (b := 1) (by omega) (by omega)).mpr y))⟩ c
                  · omega
                rw [this]
                rfl
            · rw [if_neg c4, if_pos rfl]; exact if_pos rfl
          · rw [if_neg c3, if_pos rfl]; exact if_pos rfl
        · rw [if_neg c2, if_pos rfl]; exact if_pos rfl
      · rw [if_neg c1, if_pos rfl]; exact if_pos rfl
end HP
