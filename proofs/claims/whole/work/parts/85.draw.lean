-- drawing
def s_drw (x : Int32) : Int32 := ((x &&& 2147483647) / 256) - ((x &&& 2147483647) / 256) / 721 * 721
theorem nI_dv {j d : Nat} (hj : j < 2 ^ 31) (hd : 0 < d) (hd' : d < 2 ^ 31) : nI j / nI d = nI (j / d) := by
  have h1 : (nI j).toInt = (j : Int) := nI_toInt hj
  have h2 : (nI d).toInt = (d : Int) := nI_toInt hd'
  have h3 : j / d ≤ j := Nat.div_le_self j d
  have := lg_idiv_nonneg (x := nI j) (y := nI d) (by rw [h1]; omega) (by rw [h2]; omega)
  rw [← Int32.toInt_inj, this, h1, h2, nI_toInt (by omega)]
  exact (Int.natCast_ediv j d).symm
theorem s_drw_ok (x : Int32) : nc_ok (s_drw x) 721 := by
  have h0 : ¬ x &&& 2147483647 < 0 := fun z => absurd ((Jvm.Free.XT.and_neg32 x 2147483647).mp z).2 (by decide)
  obtain ⟨j, hj, e⟩ := nI_of h0
  unfold s_drw
  rw [e]
  have e1 : nI j / 256 = nI (j / 256) := nI_dv (d := 256) hj (by omega) (by omega)
  have l1 : j / 256 ≤ j := Nat.div_le_self j 256
  have e2 : nI (j / 256) / 721 = nI (j / 256 / 721) := nI_dv (d := 721) (by omega) (by omega) (by omega)
  have e3 : nI (j / 256 / 721) * 721 = nI (j / 256 / 721 * 721) := (Int32.ofNat_mul (j / 256 / 721) 721).symm
  rw [e1, e2, e3]
  refine ⟨j / 256 % 721, Nat.mod_lt _ (by omega), ?_⟩
  have e4 : j / 256 = j / 256 % 721 + j / 256 / 721 * 721 := by omega
  have e5 : nI (j / 256) = nI (j / 256 % 721) + nI (j / 256 / 721 * 721) := by rw [nI_add, ← e4]
  rw [e5]
  exact Int32.add_sub_cancel _ _
