def f_X8_refuse (mi : nc_Mem) (o : Nat) (a1 : Int32) : Option (nc_Mem × Int32) :=
nc_at (-a1) 8 (fun (j1 : Nat) =>
nc_let (nc_up mi (o + 3) j1 ((mi (o + 3) j1) + 1)) (fun (mi2 : nc_Mem) =>
some (mi2, a1)))
def f_X8_in (mi : nc_Mem) (a0 : Int32) (a1 : Int32) (a2 : Int32) : Int32 :=
if a0 < a1 then (
0)
else (
if a2 < a0 then (
0)
else (
1))
def f_X8_isPlace (mi : nc_Mem) (o : Nat) (a1 : Int32) : Option (Int32) :=
nc_zb (f_X8_in mi a1 0 ((mi o 5) - 1)) (some (f_X8_in mi a1 0 ((mi o 5) - 1)))
def f_X8_isPerson (mi : nc_Mem) (o : Nat) (a1 : Int32) : Option (Int32) :=
nc_zb (f_X8_in mi a1 0 ((mi o 7) - 1)) (some (f_X8_in mi a1 0 ((mi o 7) - 1)))
def f_X8_isThing (mi : nc_Mem) (o : Nat) (a1 : Int32) : Option (Int32) :=
nc_zb (f_X8_in mi a1 0 ((mi o 9) - 1)) (some (f_X8_in mi a1 0 ((mi o 9) - 1)))
def f_X8_letter (mi : nc_Mem) (o : Nat) (a1 : Int32) : Option (nc_Mem × Int32) :=
if 0 ≤ a1 then (
nc_let (Option.bind (f_X8_refuse mi o (-6)) (fun (q3 : nc_Mem × Int32) =>
some (q3.1, q3.2))) (fun (k2 : Option (nc_Mem × Int32)) =>
if 255 < a1 then (
k2)
else (
if (mi o 1) = 64 then (
k2)
else (
nc_let (nc_up mi o 1 ((mi o 1) + 1)) (fun (mi6 : nc_Mem) =>
nc_at (mi o 1) 64 (fun (j7 : Nat) =>
nc_let (nc_up mi6 (o + 1) j7 a1) (fun (mi8 : nc_Mem) =>
some (mi8, (mi8 o 1)))))))))
else (
Option.bind (f_X8_refuse mi o (-4)) (fun (q9 : nc_Mem × Int32) =>
some (q9.1, q9.2)))
def f_X8_must (mi : nc_Mem) (o : Nat) (a1 : Int32) : Option (nc_Mem × Int32) :=
nc_let (fun (v2 : Int32) =>
nc_let (fun (v4 : Int32) =>
nc_let (nc_up mi o 14 ((mi o 14) + v4)) (fun (mi5 : nc_Mem) =>
nc_zb v2 (some (mi5, v2)))) (fun (k3 : Int32 → Option (nc_Mem × Int32)) =>
if v2 = 0 then (
k3 0)
else (
k3 1))) (fun (k1 : Int32 → Option (nc_Mem × Int32)) =>
if (mi o 1) ≤ (mi o 14) then (
k1 0)
else (
nc_at (mi o 14) 64 (fun (j8 : Nat) =>
if (mi (o + 1) j8) = a1 then (
k1 1)
else (
k1 0))))
def f_X8_isDigit (mi : nc_Mem) (o : Nat) : Option (Int32) :=
if (mi o 1) ≤ (mi o 14) then (
some 0)
else (
nc_at (mi o 14) 64 (fun (j2 : Nat) =>
if (mi (o + 1) j2) < 48 then (
some 0)
else (
if 57 < (mi (o + 1) j2) then (
some 0)
else (
some 1))))
def B_X8_number_4 (o : Nat) (a1 : Int32) (k1 : Int32 → Int32 → nc_Mem → Option (nc_Mem × Int32)) (rc15 : Int32 → Int32 → nc_Mem → Option (nc_Mem × Int32)) (x12 : Int32) (x13 : Int32) (mi14 : nc_Mem) : Option (nc_Mem × Int32) :=
if a1 ≤ x13 then (
k1 x12 x13 mi14)
else (
Option.bind (f_X8_isDigit mi14 o) (fun (q17 : Int32) =>
if q17 = 0 then (
k1 x12 x13 mi14)
else (
nc_at (mi14 o 14) 64 (fun (j19 : Nat) =>
nc_let ((((10 * x12) + (mi14 (o + 1) j19)) - 48)) (fun (x20 : Int32) =>
nc_let (nc_up mi14 o 14 ((mi14 o 14) + 1)) (fun (mi21 : nc_Mem) =>
nc_let (x13 + 1) (fun (x22 : Int32) =>
rc15 x20 x22 mi21)))))))
def f_X8_number (mi : nc_Mem) (o : Nat) (a1 : Int32) : Option (nc_Mem × Int32) :=
nc_let (fun (x2 : Int32) (x3 : Int32) (mi4 : nc_Mem) =>
nc_let (fun (mi6 : nc_Mem) =>
if x3 ≤ 0 then (
some (mi6, 0))
else (
some (mi6, 1))) (fun (k5 : nc_Mem → Option (nc_Mem × Int32)) =>
if x3 ≤ 0 then (
k5 mi4)
else (
nc_let (nc_up mi4 o 16 ((mi4 o 16) + 1)) (fun (mi9 : nc_Mem) =>
nc_at (mi4 o 16) 7 (fun (j10 : Nat) =>
nc_let (nc_up mi9 (o + 26) j10 x2) (fun (mi11 : nc_Mem) =>
k5 mi11)))))) (fun (k1 : Int32 → Int32 → nc_Mem → Option (nc_Mem × Int32)) =>
nc_loop (fun _ _ _ => none) (B_X8_number_4 o a1 k1) 200 0 0 mi)
def f_X8_comma (mi : nc_Mem) (o : Nat) (a1 : Int32) : Option (nc_Mem × Int32) :=
Option.bind (f_X8_must mi o 44) (fun (q1 : nc_Mem × Int32) =>
if q1.2 = 0 then (
some (q1.1, 0))
else (
Option.bind (f_X8_number q1.1 o a1) (fun (q3 : nc_Mem × Int32) =>
if q3.2 = 0 then (
some (q3.1, 0))
else (
some (q3.1, 1)))))
def f_X8_goesBy (mi : nc_Mem) (o : Nat) : Option (nc_Mem × Int32) :=
nc_let (nc_up mi o 16 0) (fun (mi1 : nc_Mem) =>
Option.bind (f_X8_must mi1 o 110) (fun (q2 : nc_Mem × Int32) =>
nc_let (fun (x4 : Int32) (mi5 : nc_Mem) =>
if x4 = 0 then (
some (mi5, 0))
else (
Option.bind (f_X8_must mi5 o 59) (fun (q7 : nc_Mem × Int32) =>
if q7.2 = 0 then (
some (q7.1, 0))
else (
some (q7.1, 1))))) (fun (k3 : Int32 → nc_Mem → Option (nc_Mem × Int32)) =>
if q2.2 = 0 then (
Option.bind (f_X8_must q2.1 o 119) (fun (q10 : nc_Mem × Int32) =>
if q10.2 = 0 then (
Option.bind (f_X8_must q10.1 o 112) (fun (q12 : nc_Mem × Int32) =>
if q12.2 = 0 then (
Option.bind (f_X8_must q12.1 o 116) (fun (q14 : nc_Mem × Int32) =>
if q14.2 = 0 then (
k3 0 q14.1)
else (
Option.bind (f_X8_number q14.1 o 1) (fun (q16 : nc_Mem × Int32) =>
if q16.2 = 0 then (
k3 0 q16.1)
else (
Option.bind (f_X8_number q16.1 o 1) (fun (q18 : nc_Mem × Int32) =>
if q18.2 = 0 then (
k3 0 q18.1)
else (
Option.bind (f_X8_number q18.1 o 1) (fun (q20 : nc_Mem × Int32) =>
if q20.2 = 0 then (
k3 0 q20.1)
else (
Option.bind (f_X8_number q20.1 o 1) (fun (q22 : nc_Mem × Int32) =>
if q22.2 = 0 then (
k3 0 q22.1)
else (
Option.bind (f_X8_comma q22.1 o 1) (fun (q24 : nc_Mem × Int32) =>
if q24.2 = 0 then (
k3 0 q24.1)
else (
Option.bind (f_X8_comma q24.1 o 3) (fun (q26 : nc_Mem × Int32) =>
if q26.2 = 0 then (
k3 0 q26.1)
else (
Option.bind (f_X8_comma q26.1 o 2) (fun (q28 : nc_Mem × Int32) =>
if q28.2 = 0 then (
k3 0 q28.1)
else (
k3 1 q28.1)))))))))))))))))
else (
Option.bind (f_X8_number q12.1 o 1) (fun (q30 : nc_Mem × Int32) =>
if q30.2 = 0 then (
k3 0 q30.1)
else (
Option.bind (f_X8_number q30.1 o 1) (fun (q32 : nc_Mem × Int32) =>
if q32.2 = 0 then (
k3 0 q32.1)
else (
Option.bind (f_X8_comma q32.1 o 3) (fun (q34 : nc_Mem × Int32) =>
if q34.2 = 0 then (
k3 0 q34.1)
else (
Option.bind (f_X8_comma q34.1 o 1) (fun (q36 : nc_Mem × Int32) =>
if q36.2 = 0 then (
k3 0 q36.1)
else (
Option.bind (f_X8_comma q36.1 o 1) (fun (q38 : nc_Mem × Int32) =>
if q38.2 = 0 then (
k3 0 q38.1)
else (
k3 1 q38.1)))))))))))))
else (
Option.bind (f_X8_number q10.1 o 1) (fun (q40 : nc_Mem × Int32) =>
if q40.2 = 0 then (
k3 0 q40.1)
else (
Option.bind (f_X8_number q40.1 o 1) (fun (q42 : nc_Mem × Int32) =>
if q42.2 = 0 then (
k3 0 q42.1)
else (
Option.bind (f_X8_comma q42.1 o 2) (fun (q44 : nc_Mem × Int32) =>
if q44.2 = 0 then (
k3 0 q44.1)
else (
k3 1 q44.1)))))))))
else (
Option.bind (f_X8_number q2.1 o 1) (fun (q46 : nc_Mem × Int32) =>
k3 q46.2 q46.1)))))
def B_X8_faultOfForm_17 (o : Nat) (k4 : nc_Mem → Option (nc_Mem × Int32)) (rc7 : nc_Mem → Option (nc_Mem × Int32)) (mi6 : nc_Mem) : Option (nc_Mem × Int32) :=
if (mi6 o 1) ≤ (mi6 o 14) then (
some (mi6, (-9)))
else (
Option.bind (f_X8_goesBy mi6 o) (fun (q9 : nc_Mem × Int32) =>
if q9.2 = 0 then (
k4 q9.1)
else (
rc7 q9.1)))
def f_X8_faultOfForm (mi : nc_Mem) (o : Nat) : Option (nc_Mem × Int32) :=
nc_let (nc_up mi o 14 0) (fun (mi1 : nc_Mem) =>
Option.bind (f_X8_goesBy mi1 o) (fun (q2 : nc_Mem × Int32) =>
if q2.2 = 0 then (
some (q2.1, (q2.1 o 14)))
else (
nc_let (fun (mi5 : nc_Mem) =>
some (mi5, (mi5 o 14))) (fun (k4 : nc_Mem → Option (nc_Mem × Int32)) =>
nc_loop (fun _ => none) (B_X8_faultOfForm_17 o k4) 200 q2.1))))
def B_X8_placesNeeded_122 (mi : nc_Mem) (o : Nat) (rc11 : Int32 → Int32 → Option (Int32)) (x9 : Int32) (x10 : Int32) : Option (Int32) :=
if (mi o 9) ≤ x10 then (
some (x9 + 1))
else (
nc_at x10 6 (fun (j13 : Nat) =>
nc_let (fun (v15 : Int32) =>
nc_let (fun (v17 : Int32) =>
if 10 ≤ (mi (o + 19 + 1 + j13) 7) then (
nc_let (x10 + 1) (fun (x19 : Int32) =>
rc11 v17 x19))
else (
if (mi (o + 19 + 1 + j13) 7) ≤ v17 then (
nc_let (x10 + 1) (fun (x21 : Int32) =>
rc11 v17 x21))
else (
nc_let ((mi (o + 19 + 1 + j13) 7)) (fun (x22 : Int32) =>
nc_let (x10 + 1) (fun (x23 : Int32) =>
rc11 x22 x23))))) (fun (k16 : Int32 → Option (Int32)) =>
if (mi (o + 19 + 1 + j13) 3) ≤ v15 then (
k16 v15)
else (
k16 (mi (o + 19 + 1 + j13) 3)))) (fun (k14 : Int32 → Option (Int32)) =>
if (mi (o + 19 + 1 + j13) 2) ≤ x9 then (
k14 x9)
else (
k14 (mi (o + 19 + 1 + j13) 2)))))
def B_X8_placesNeeded_54 (mi : nc_Mem) (o : Nat) (rc7 : Int32 → Int32 → Option (Int32)) (x5 : Int32) (x6 : Int32) : Option (Int32) :=
if (mi o 7) ≤ x6 then (
nc_loop (fun _ _ => none) (B_X8_placesNeeded_122 mi o) 200 x5 0)
else (
nc_at x6 6 (fun (j26 : Nat) =>
nc_let (fun (v28 : Int32) =>
nc_let (fun (v30 : Int32) =>
if (mi (o + 12 + 1 + j26) 5) ≤ v30 then (
nc_let (x6 + 1) (fun (x32 : Int32) =>
rc7 v30 x32))
else (
nc_let ((mi (o + 12 + 1 + j26) 5)) (fun (x33 : Int32) =>
nc_let (x6 + 1) (fun (x34 : Int32) =>
rc7 x33 x34)))) (fun (k29 : Int32 → Option (Int32)) =>
if (mi (o + 12 + 1 + j26) 1) ≤ v28 then (
k29 v28)
else (
k29 (mi (o + 12 + 1 + j26) 1)))) (fun (k27 : Int32 → Option (Int32)) =>
if (mi (o + 12 + 1 + j26) 0) ≤ x5 then (
k27 x5)
else (
k27 (mi (o + 12 + 1 + j26) 0)))))
def B_X8_placesNeeded_12 (mi : nc_Mem) (o : Nat) (x2 : Int32) (rc3 : Int32 → Int32 → Option (Int32)) (rc39 : Int32 → Int32 → Option (Int32)) (x37 : Int32) (x38 : Int32) : Option (Int32) :=
if 7 ≤ x38 then (
nc_let (x2 + 1) (fun (x41 : Int32) =>
rc3 x37 x41))
else (
nc_at x2 7 (fun (j42 : Nat) =>
nc_at x38 7 (fun (j43 : Nat) =>
if (mi (o + 4 + 1 + j42) j43) ≤ 0 then (
nc_let (x38 + 1) (fun (x45 : Int32) =>
rc39 x37 x45))
else (
if x2 ≤ x37 then (
nc_let (x38 + 1) (fun (x47 : Int32) =>
rc39 x37 x47))
else (
nc_let (x38 + 1) (fun (x48 : Int32) =>
rc39 x2 x48))))))
def B_X8_placesNeeded_4 (mi : nc_Mem) (o : Nat) (rc3 : Int32 → Int32 → Option (Int32)) (x1 : Int32) (x2 : Int32) : Option (Int32) :=
if 7 ≤ x2 then (
nc_loop (fun _ _ => none) (B_X8_placesNeeded_54 mi o) 200 x1 0)
else (
nc_loop (fun _ _ => none) (B_X8_placesNeeded_12 mi o x2 rc3) 200 x1 0)
def f_X8_placesNeeded (mi : nc_Mem) (o : Nat) : Option (Int32) :=
nc_loop (fun _ _ => none) (B_X8_placesNeeded_4 mi o) 200 1 0
def f_X8_placesCome (mi : nc_Mem) (o : Nat) : Option (nc_Mem × Int32) :=
Option.bind (f_X8_placesNeeded mi o) (fun (q1 : Int32) =>
if (f_X8_in mi (mi (o + 26) 0) q1 7) = 0 then (
some (mi, 0))
else (
nc_let (nc_up mi o 5 (mi (o + 26) 0)) (fun (mi3 : nc_Mem) =>
some (mi3, 1))))
def f_X8_wayComes (mi : nc_Mem) (o : Nat) : Option (nc_Mem × Int32) :=
Option.bind (f_X8_isPlace mi o (mi (o + 26) 0)) (fun (q1 : Int32) =>
if q1 = 0 then (
some (mi, 0))
else (
Option.bind (f_X8_isPlace mi o (mi (o + 26) 1)) (fun (q3 : Int32) =>
if q3 = 0 then (
some (mi, 0))
else (
if (mi (o + 26) 0) = (mi (o + 26) 1) then (
some (mi, 0))
else (
if (f_X8_in mi (mi (o + 26) 2) 1 60) = 0 then (
some (mi, 0))
else (
nc_at (mi (o + 26) 0) 7 (fun (j7 : Nat) =>
nc_at (mi (o + 26) 1) 7 (fun (j8 : Nat) =>
nc_let (nc_up mi (o + 4 + 1 + j7) j8 (mi (o + 26) 2)) (fun (mi9 : nc_Mem) =>
nc_at (mi9 (o + 26) 1) 7 (fun (j10 : Nat) =>
nc_at (mi9 (o + 26) 0) 7 (fun (j11 : Nat) =>
nc_let (nc_up mi9 (o + 4 + 1 + j10) j11 (mi9 (o + 26) 2)) (fun (mi12 : nc_Mem) =>
some (mi12, 1)))))))))))))
def B_X8_personComes_68 (o : Nat) (j8 : Nat) (k9 : nc_Mem → Option (nc_Mem × Int32)) (rc15 : Int32 → nc_Mem → Option (nc_Mem × Int32)) (x13 : Int32) (mi14 : nc_Mem) : Option (nc_Mem × Int32) :=
if 5 ≤ x13 then (
k9 mi14)
else (
nc_at x13 7 (fun (j17 : Nat) =>
nc_let (nc_up mi14 (o + 12 + 1 + j8) j17 (mi14 (o + 26) j17)) (fun (mi18 : nc_Mem) =>
nc_let (x13 + 1) (fun (x19 : Int32) =>
rc15 x19 mi18))))
def f_X8_personComes (mi : nc_Mem) (o : Nat) : Option (nc_Mem × Int32) :=
Option.bind (f_X8_isPlace mi o (mi (o + 26) 0)) (fun (q1 : Int32) =>
if q1 = 0 then (
some (mi, 0))
else (
Option.bind (f_X8_isPlace mi o (mi (o + 26) 1)) (fun (q3 : Int32) =>
if q3 = 0 then (
some (mi, 0))
else (
if 720 < (mi (o + 26) 2) then (
some (mi, 0))
else (
if (mi o 7) = 6 then (
some (mi, 0))
else (
nc_let (nc_up mi o 7 ((mi o 7) + 1)) (fun (mi7 : nc_Mem) =>
nc_at (mi o 7) 6 (fun (j8 : Nat) =>
nc_let (fun (mi10 : nc_Mem) =>
nc_let (nc_up mi10 (o + 12 + 1 + j8) 5 (mi10 (o + 12 + 1 + j8) 0)) (fun (mi11 : nc_Mem) =>
nc_let (nc_up mi11 (o + 12 + 1 + j8) 6 (mi11 (o + 12 + 1 + j8) 2)) (fun (mi12 : nc_Mem) =>
some (mi12, 1)))) (fun (k9 : nc_Mem → Option (nc_Mem × Int32)) =>
nc_loop (fun _ _ => none) (B_X8_personComes_68 o j8 k9) 200 0 mi7)))))))))
def B_X8_thingComes_102 (o : Nat) (j8 : Nat) (k9 : nc_Mem → Option (nc_Mem × Int32)) (rc16 : Int32 → nc_Mem → Option (nc_Mem × Int32)) (x14 : Int32) (mi15 : nc_Mem) : Option (nc_Mem × Int32) :=
if 7 ≤ x14 then (
k9 mi15)
else (
nc_at x14 7 (fun (j18 : Nat) =>
nc_at x14 10 (fun (j19 : Nat) =>
nc_let (nc_up mi15 (o + 19 + 1 + j8) j19 (mi15 (o + 26) j18)) (fun (mi20 : nc_Mem) =>
nc_let (x14 + 1) (fun (x21 : Int32) =>
rc16 x21 mi20)))))
def f_X8_thingComes (mi : nc_Mem) (o : Nat) : Option (nc_Mem × Int32) :=
Option.bind (f_X8_isPerson mi o (mi (o + 26) 0)) (fun (q1 : Int32) =>
nc_let (fun (v3 : Int32) =>
if v3 = 0 then (
some (mi, 0))
else (
if (mi (o + 26) 4) < 1 then (
some (mi, 0))
else (
if (mi o 9) = 6 then (
some (mi, 0))
else (
nc_let (nc_up mi o 9 ((mi o 9) + 1)) (fun (mi7 : nc_Mem) =>
nc_at (mi o 9) 6 (fun (j8 : Nat) =>
nc_let (fun (mi10 : nc_Mem) =>
nc_let (nc_up mi10 (o + 19 + 1 + j8) 7 (mi10 (o + 19 + 1 + j8) 2)) (fun (mi11 : nc_Mem) =>
nc_let (nc_up mi11 (o + 19 + 1 + j8) 8 0) (fun (mi12 : nc_Mem) =>
nc_let (nc_up mi12 (o + 19 + 1 + j8) 9 (-9)) (fun (mi13 : nc_Mem) =>
some (mi13, 1))))) (fun (k9 : nc_Mem → Option (nc_Mem × Int32)) =>
nc_loop (fun _ _ => none) (B_X8_thingComes_102 o j8 k9) 200 0 mi7))))))) (fun (k2 : Int32 → Option (nc_Mem × Int32)) =>
if q1 = 0 then (
k2 0)
else (
Option.bind (f_X8_isPerson mi o (mi (o + 26) 1)) (fun (q23 : Int32) =>
if q23 = 0 then (
k2 0)
else (
Option.bind (f_X8_isPlace mi o (mi (o + 26) 2)) (fun (q25 : Int32) =>
if q25 = 0 then (
k2 0)
else (
Option.bind (f_X8_isPlace mi o (mi (o + 26) 3)) (fun (q27 : Int32) =>
if q27 = 0 then (
k2 0)
else (
k2 1)))))))))
def f_X8_comes (mi : nc_Mem) (o : Nat) (a1 : Int32) : Option (nc_Mem × Int32) :=
if a1 = 110 then (
Option.bind (f_X8_placesCome mi o) (fun (q2 : nc_Mem × Int32) =>
nc_zb q2.2 (some (q2.1, q2.2))))
else (
if a1 = 112 then (
Option.bind (f_X8_personComes mi o) (fun (q4 : nc_Mem × Int32) =>
nc_zb q4.2 (some (q4.1, q4.2))))
else (
if a1 = 119 then (
Option.bind (f_X8_wayComes mi o) (fun (q6 : nc_Mem × Int32) =>
nc_zb q6.2 (some (q6.1, q6.2))))
else (
Option.bind (f_X8_thingComes mi o) (fun (q7 : nc_Mem × Int32) =>
nc_zb q7.2 (some (q7.1, q7.2))))))
def B_X8_copyAll_10 (r0 : Nat) (n0 : Nat) (k0 : Nat) (r1 : Nat) (n1 : Nat) (k1 : Nat) (x1 : Int32) (rc3 : Int32 → nc_Mem → Option (nc_Mem)) (rc7 : Int32 → nc_Mem → Option (nc_Mem)) (x5 : Int32) (mi6 : nc_Mem) : Option (nc_Mem) :=
nc_at x1 n0 (fun (j8 : Nat) =>
if (Int32.ofNat k0) ≤ x5 then (
nc_let (x1 + 1) (fun (x10 : Int32) =>
rc3 x10 mi6))
else (
nc_at x1 n1 (fun (j11 : Nat) =>
nc_at x5 k0 (fun (j12 : Nat) =>
nc_at x5 k1 (fun (j13 : Nat) =>
nc_let (nc_up mi6 (r1 + 1 + j11) j13 (mi6 (r0 + 1 + j8) j12)) (fun (mi14 : nc_Mem) =>
nc_let (x5 + 1) (fun (x15 : Int32) =>
rc7 x15 mi14)))))))
def B_X8_copyAll_2 (r0 : Nat) (n0 : Nat) (k0 : Nat) (r1 : Nat) (n1 : Nat) (k1 : Nat) (rc3 : Int32 → nc_Mem → Option (nc_Mem)) (x1 : Int32) (mi2 : nc_Mem) : Option (nc_Mem) :=
if (Int32.ofNat n0) ≤ x1 then (
some mi2)
else (
nc_loop (fun _ _ => none) (B_X8_copyAll_10 r0 n0 k0 r1 n1 k1 x1 rc3) 200 0 mi2)
def f_X8_copyAll (mi : nc_Mem) (r0 : Nat) (n0 : Nat) (k0 : Nat) (r1 : Nat) (n1 : Nat) (k1 : Nat) : Option (nc_Mem) :=
nc_loop (fun _ _ => none) (B_X8_copyAll_2 r0 n0 k0 r1 n1 k1) 200 0 mi
def f_X8_takeFrom (mi : nc_Mem) (o : Nat) (r1 : Nat) : Option (nc_Mem) :=
nc_let (nc_up mi o 5 (mi r1 5)) (fun (mi1 : nc_Mem) =>
Option.bind (f_X8_copyAll mi1 (r1 + 4) 7 7 (o + 4) 7 7) (fun (q2 : nc_Mem) =>
nc_let (nc_up q2 o 7 (q2 r1 7)) (fun (mi3 : nc_Mem) =>
Option.bind (f_X8_copyAll mi3 (r1 + 12) 6 7 (o + 12) 6 7) (fun (q4 : nc_Mem) =>
nc_let (nc_up q4 o 9 (q4 r1 9)) (fun (mi5 : nc_Mem) =>
Option.bind (f_X8_copyAll mi5 (r1 + 19) 6 10 (o + 19) 6 10) (fun (q6 : nc_Mem) =>
nc_let (nc_up q6 o 11 (q6 r1 11)) (fun (mi7 : nc_Mem) =>
some mi7)))))))
def B_X8_town_55 (o : Nat) (tr : Nat) (k7 : Int32 → nc_Mem → Option (nc_Mem × Int32)) (rc13 : Int32 → nc_Mem → Option (nc_Mem × Int32)) (x11 : Int32) (mi12 : nc_Mem) : Option (nc_Mem × Int32) :=
if (mi12 o 1) ≤ (mi12 o 14) then (
k7 x11 mi12)
else (
nc_let ((mi12 o 14)) (fun (x15 : Int32) =>
Option.bind (f_X8_goesBy mi12 o) (fun (q16 : nc_Mem × Int32) =>
nc_at x15 64 (fun (j17 : Nat) =>
Option.bind (f_X8_comes q16.1 o (q16.1 (o + 1) j17)) (fun (q18 : nc_Mem × Int32) =>
if q18.2 = 0 then (
Option.bind (f_X8_takeFrom q18.1 o tr) (fun (q21 : nc_Mem) =>
nc_let (nc_up q21 o 1 0) (fun (mi22 : nc_Mem) =>
some (mi22, ((-2000) - x15)))))
else (
nc_let (x11 + 1) (fun (x20 : Int32) =>
rc13 x20 q18.1)))))))
def f_X8_town (mi : nc_Mem) (o : Nat) (z : Nat) (nz : Nat) : Option (nc_Mem × Int32) :=
Option.bind (f_X8_faultOfForm mi o) (fun (q1 : nc_Mem × Int32) =>
if q1.2 = (-9) then (
nc_let (if z = 0 then nz + 0 else z) (fun (tr : Nat) =>
nc_let (if z = 0 then nc_up q1.1 (nz + 0) 5 4 else q1.1) (fun (mi3 : nc_Mem) =>
Option.bind (f_X8_takeFrom mi3 tr o) (fun (q5 : nc_Mem) =>
nc_let (nc_up q5 o 14 0) (fun (mi6 : nc_Mem) =>
nc_let (fun (x8 : Int32) (mi9 : nc_Mem) =>
nc_let (nc_up mi9 o 1 0) (fun (mi10 : nc_Mem) =>
some (mi10, x8))) (fun (k7 : Int32 → nc_Mem → Option (nc_Mem × Int32)) =>
nc_loop (fun _ _ => none) (B_X8_town_55 o tr k7) 200 0 mi6))))))
else (
nc_let (nc_up q1.1 o 1 0) (fun (mi23 : nc_Mem) =>
some (mi23, ((-1000) - q1.2)))))
def B_X8_findFar_95 (o : Nat) (x5 : Int32) (x9 : Int32) (rc11 : Int32 → nc_Mem → Option (nc_Mem)) (rc16 : Int32 → nc_Mem → Option (nc_Mem)) (x14 : Int32) (mi15 : nc_Mem) : Option (nc_Mem) :=
if (mi15 o 5) ≤ x14 then (
nc_let (x9 + 1) (fun (x18 : Int32) =>
rc11 x18 mi15))
else (
nc_at x9 7 (fun (j19 : Nat) =>
nc_at x5 7 (fun (j20 : Nat) =>
nc_at x14 7 (fun (j21 : Nat) =>
nc_let (((mi15 (o + 27 + 1 + j19) j20) + (mi15 (o + 27 + 1 + j20) j21))) (fun (x22 : Int32) =>
nc_let (fun (v24 : Int32) =>
nc_let (nc_up mi15 (o + 27 + 1 + j19) j21 v24) (fun (mi25 : nc_Mem) =>
nc_let (x14 + 1) (fun (x26 : Int32) =>
rc16 x26 mi25))) (fun (k23 : Int32 → Option (nc_Mem)) =>
if (mi15 (o + 27 + 1 + j19) j21) ≤ x22 then (
k23 (mi15 (o + 27 + 1 + j19) j21))
else (
k23 x22)))))))
def B_X8_findFar_85 (o : Nat) (x5 : Int32) (rc7 : Int32 → nc_Mem → Option (nc_Mem)) (rc11 : Int32 → nc_Mem → Option (nc_Mem)) (x9 : Int32) (mi10 : nc_Mem) : Option (nc_Mem) :=
if (mi10 o 5) ≤ x9 then (
nc_let (x5 + 1) (fun (x13 : Int32) =>
rc7 x13 mi10))
else (
nc_loop (fun _ _ => none) (B_X8_findFar_95 o x5 x9 rc11) 200 0 mi10)
def B_X8_findFar_75 (o : Nat) (rc7 : Int32 → nc_Mem → Option (nc_Mem)) (x5 : Int32) (mi6 : nc_Mem) : Option (nc_Mem) :=
if (mi6 o 5) ≤ x5 then (
some mi6)
else (
nc_loop (fun _ _ => none) (B_X8_findFar_85 o x5 rc7) 200 0 mi6)
def B_X8_findFar_12 (o : Nat) (x1 : Int32) (rc3 : Int32 → nc_Mem → Option (nc_Mem)) (rc30 : Int32 → nc_Mem → Option (nc_Mem)) (x28 : Int32) (mi29 : nc_Mem) : Option (nc_Mem) :=
if (mi29 o 5) ≤ x28 then (
nc_let (x1 + 1) (fun (x32 : Int32) =>
rc3 x32 mi29))
else (
nc_at x1 7 (fun (j33 : Nat) =>
nc_let (fun (v35 : Int32) =>
nc_at x28 7 (fun (j36 : Nat) =>
nc_let (nc_up mi29 (o + 27 + 1 + j33) j36 v35) (fun (mi37 : nc_Mem) =>
nc_let (x28 + 1) (fun (x38 : Int32) =>
rc30 x38 mi37)))) (fun (k34 : Int32 → Option (nc_Mem)) =>
if x1 = x28 then (
k34 0)
else (
nc_at x28 7 (fun (j40 : Nat) =>
if (mi29 (o + 4 + 1 + j33) j40) ≤ 0 then (
k34 100000)
else (
k34 (mi29 (o + 4 + 1 + j33) j40)))))))
def B_X8_findFar_2 (o : Nat) (rc3 : Int32 → nc_Mem → Option (nc_Mem)) (x1 : Int32) (mi2 : nc_Mem) : Option (nc_Mem) :=
if (mi2 o 5) ≤ x1 then (
nc_loop (fun _ _ => none) (B_X8_findFar_75 o) 200 0 mi2)
else (
nc_loop (fun _ _ => none) (B_X8_findFar_12 o x1 rc3) 200 0 mi2)
def f_X8_findFar (mi : nc_Mem) (o : Nat) : Option (nc_Mem) :=
nc_loop (fun _ _ => none) (B_X8_findFar_2 o) 200 0 mi
def f_X8_minutes (mi : nc_Mem) (o : Nat) (a1 : Int32) (a2 : Int32) : Option (nc_Mem × Int32) :=
Option.bind (f_X8_isPlace mi o a1) (fun (q1 : Int32) =>
nc_let (Option.bind (f_X8_refuse mi o (-1)) (fun (q3 : nc_Mem × Int32) =>
some (q3.1, q3.2))) (fun (k2 : Option (nc_Mem × Int32)) =>
if q1 = 0 then (
k2)
else (
Option.bind (f_X8_isPlace mi o a2) (fun (q5 : Int32) =>
if q5 = 0 then (
k2)
else (
Option.bind (f_X8_findFar mi o) (fun (q7 : nc_Mem) =>
nc_at a1 7 (fun (j8 : Nat) =>
nc_at a2 7 (fun (j9 : Nat) =>
if 100000 ≤ (q7 (o + 27 + 1 + j8) j9) then (
some (q7, (-9)))
else (
some (q7, (q7 (o + 27 + 1 + j8) j9)))))))))))
def B_X8_carriedBy_4 (mi : nc_Mem) (o : Nat) (a1 : Int32) (rc3 : Int32 → Int32 → Option (Int32)) (x1 : Int32) (x2 : Int32) : Option (Int32) :=
if (mi o 9) ≤ x2 then (
some x1)
else (
nc_at x2 6 (fun (j5 : Nat) =>
if (mi (o + 19 + 1 + j5) 7) = (10 + a1) then (
nc_let ((x1 ||| ((1 : Int32) <<< (x2 &&& 31)))) (fun (x9 : Int32) =>
nc_let (x2 + 1) (fun (x10 : Int32) =>
rc3 x9 x10)))
else (
nc_let ((x1 ||| 0)) (fun (x7 : Int32) =>
nc_let (x2 + 1) (fun (x8 : Int32) =>
rc3 x7 x8)))))
def f_X8_carriedBy (mi : nc_Mem) (o : Nat) (a1 : Int32) : Option (Int32) :=
nc_loop (fun _ _ => none) (B_X8_carriedBy_4 mi o a1) 200 0 0
def f_X8_person (mi : nc_Mem) (o : Nat) (a1 : Int32) (a2 : Int32) : Option (nc_Mem × Int32) :=
Option.bind (f_X8_isPerson mi o a1) (fun (q1 : Int32) =>
if q1 = 0 then (
Option.bind (f_X8_refuse mi o (-1)) (fun (q9 : nc_Mem × Int32) =>
some (q9.1, q9.2)))
else (
if (f_X8_in mi a2 0 7) = 0 then (
Option.bind (f_X8_refuse mi o (-2)) (fun (q8 : nc_Mem × Int32) =>
some (q8.1, q8.2)))
else (
if 7 ≤ a2 then (
Option.bind (f_X8_carriedBy mi o a1) (fun (q5 : Int32) =>
some (mi, q5)))
else (
nc_at a1 6 (fun (j6 : Nat) =>
nc_at a2 7 (fun (j7 : Nat) =>
some (mi, (mi (o + 12 + 1 + j6) j7))))))))
def f_X8_thing (mi : nc_Mem) (o : Nat) (a1 : Int32) (a2 : Int32) : Option (nc_Mem × Int32) :=
Option.bind (f_X8_isThing mi o a1) (fun (q1 : Int32) =>
if q1 = 0 then (
Option.bind (f_X8_refuse mi o (-1)) (fun (q7 : nc_Mem × Int32) =>
some (q7.1, q7.2)))
else (
if (f_X8_in mi a2 0 9) = 0 then (
Option.bind (f_X8_refuse mi o (-2)) (fun (q4 : nc_Mem × Int32) =>
some (q4.1, q4.2)))
else (
nc_at a1 6 (fun (j5 : Nat) =>
nc_at a2 10 (fun (j6 : Nat) =>
some (mi, (mi (o + 19 + 1 + j5) j6)))))))
def f_X8_law (mi : nc_Mem) (o : Nat) (a1 : Int32) : Option (nc_Mem × Int32) :=
if (f_X8_in mi a1 0 4) = 0 then (
Option.bind (f_X8_refuse mi o (-2)) (fun (q4 : nc_Mem × Int32) =>
some (q4.1, q4.2)))
else (
nc_let ((mi o 11)) (fun (x2 : Int32) =>
nc_let (nc_up mi o 11 a1) (fun (mi3 : nc_Mem) =>
some (mi3, x2))))
def f_X8_isOwner (mi : nc_Mem) (o : Nat) (a1 : Int32) (a2 : Int32) : Option (Int32) :=
nc_at a2 6 (fun (j1 : Nat) =>
if (mi (o + 19 + 1 + j1) 0) = a1 then (
some 1)
else (
if (mi (o + 19 + 1 + j1) 1) = a1 then (
some 1)
else (
some 0)))
def f_X8_isKin (mi : nc_Mem) (o : Nat) (a1 : Int32) (a2 : Int32) : Option (Int32) :=
nc_at a1 6 (fun (j1 : Nat) =>
nc_let ((mi (o + 12 + 1 + j1) 3)) (fun (x2 : Int32) =>
if x2 = 0 then (
some 0)
else (
nc_at a2 6 (fun (j4 : Nat) =>
nc_at (mi (o + 19 + 1 + j4) 0) 6 (fun (j5 : Nat) =>
if (mi (o + 12 + 1 + j5) 3) = x2 then (
some 1)
else (
nc_at (mi (o + 19 + 1 + j4) 1) 6 (fun (j7 : Nat) =>
if (mi (o + 12 + 1 + j7) 3) = x2 then (
some 1)
else (
some 0))))))))
def f_X8_lets (mi : nc_Mem) (o : Nat) (a1 : Int32) (a2 : Int32) (a3 : Int32) (a4 : Int32) (a5 : Int32) : Option (Int32) :=
if a1 = 0 then (
Option.bind (f_X8_isOwner mi o a2 a3) (fun (q2 : Int32) =>
if q2 = 0 then (
some 1)
else (
some 0)))
else (
if a1 = 1 then (
Option.bind (f_X8_isOwner mi o a2 a3) (fun (q5 : Int32) =>
if q5 = 0 then (
Option.bind (f_X8_isKin mi o a2 a3) (fun (q7 : Int32) =>
if q7 = 0 then (
some 1)
else (
some 0)))
else (
some 0)))
else (
if a1 = 2 then (
Option.bind (f_X8_isOwner mi o a2 a3) (fun (q10 : Int32) =>
if q10 = 0 then (
some 1)
else (
if a5 = (-9) then (
some 0)
else (
if (f_X8_in mi (a4 - a5) 0 59) = 0 then (
some 0)
else (
some 1)))))
else (
if a1 = 3 then (
some 1)
else (
if 720 ≤ a4 then (
some 1)
else (
Option.bind (f_X8_isOwner mi o a2 a3) (fun (q16 : Int32) =>
if q16 = 0 then (
Option.bind (f_X8_isKin mi o a2 a3) (fun (q18 : Int32) =>
if q18 = 0 then (
some 1)
else (
some 0)))
else (
some 0)))))))
def f_X8_isFree (mi : nc_Mem) (o : Nat) (a1 : Int32) (a2 : Int32) : Option (Int32) :=
nc_at a2 6 (fun (j1 : Nat) =>
nc_at a1 6 (fun (j2 : Nat) =>
if (mi (o + 12 + 1 + j2) 4) < (mi (o + 19 + 1 + j1) 4) then (
some 0)
else (
some 1)))
def f_X8_mayNow (mi : nc_Mem) (o : Nat) (a1 : Int32) (a2 : Int32) (a3 : Int32) : Option (Int32) :=
Option.bind (f_X8_isFree mi o a1 a2) (fun (q1 : Int32) =>
if q1 = 0 then (
some 0)
else (
nc_at a2 6 (fun (j3 : Nat) =>
Option.bind (f_X8_lets mi o (mi o 11) a1 a2 a3 (mi (o + 19 + 1 + j3) 9)) (fun (q4 : Int32) =>
if q4 = 0 then (
some 0)
else (
some 1)))))
def f_X8_may (mi : nc_Mem) (o : Nat) (a1 : Int32) (a2 : Int32) (a3 : Int32) : Option (nc_Mem × Int32) :=
Option.bind (f_X8_isPerson mi o a1) (fun (q1 : Int32) =>
nc_let (Option.bind (f_X8_refuse mi o (-1)) (fun (q3 : nc_Mem × Int32) =>
some (q3.1, q3.2))) (fun (k2 : Option (nc_Mem × Int32)) =>
if q1 = 0 then (
k2)
else (
Option.bind (f_X8_isThing mi o a2) (fun (q5 : Int32) =>
if q5 = 0 then (
k2)
else (
if 0 ≤ a3 then (
if a3 ≤ 9999 then (
Option.bind (f_X8_mayNow mi o a1 a2 a3) (fun (q9 : Int32) =>
if q9 = 0 then (
some (mi, 0))
else (
some (mi, 1))))
else (
Option.bind (f_X8_refuse mi o (-6)) (fun (q11 : nc_Mem × Int32) =>
some (q11.1, q11.2))))
else (
Option.bind (f_X8_refuse mi o (-4)) (fun (q12 : nc_Mem × Int32) =>
some (q12.1, q12.2))))))))
def B_X8_sizeOn_4 (mi : nc_Mem) (o : Nat) (a1 : Int32) (rc3 : Int32 → Int32 → Option (Int32)) (x1 : Int32) (x2 : Int32) : Option (Int32) :=
if (mi o 9) ≤ x2 then (
some x1)
else (
nc_at x2 6 (fun (j5 : Nat) =>
if (mi (o + 19 + 1 + j5) 7) = (10 + a1) then (
nc_let ((x1 + (mi (o + 19 + 1 + j5) 4))) (fun (x9 : Int32) =>
nc_let (x2 + 1) (fun (x10 : Int32) =>
rc3 x9 x10)))
else (
nc_let ((x1 + 0)) (fun (x7 : Int32) =>
nc_let (x2 + 1) (fun (x8 : Int32) =>
rc3 x7 x8)))))
def f_X8_sizeOn (mi : nc_Mem) (o : Nat) (a1 : Int32) : Option (Int32) :=
nc_loop (fun _ _ => none) (B_X8_sizeOn_4 mi o a1) 200 0 0
def f_X8_hasRoom (mi : nc_Mem) (o : Nat) (a1 : Int32) (a2 : Int32) : Option (Int32) :=
Option.bind (f_X8_sizeOn mi o a1) (fun (q1 : Int32) =>
nc_at a2 6 (fun (j2 : Nat) =>
nc_at a1 6 (fun (j3 : Nat) =>
if (mi (o + 12 + 1 + j3) 4) < (q1 + (mi (o + 19 + 1 + j2) 4)) then (
some 0)
else (
some 1))))
def f_X8_later (mi : nc_Mem) (a0 : Int32) (a1 : Int32) : Int32 :=
if a0 ≤ a1 then (
a1)
else (
a0)
def f_X8_take (mi : nc_Mem) (o : Nat) (a1 : Int32) (a2 : Int32) : Option (nc_Mem × Int32) :=
Option.bind (f_X8_isPerson mi o a1) (fun (q1 : Int32) =>
nc_let (Option.bind (f_X8_refuse mi o (-1)) (fun (q3 : nc_Mem × Int32) =>
some (q3.1, q3.2))) (fun (k2 : Option (nc_Mem × Int32)) =>
if q1 = 0 then (
k2)
else (
Option.bind (f_X8_isThing mi o a2) (fun (q5 : Int32) =>
if q5 = 0 then (
k2)
else (
nc_at a1 6 (fun (j7 : Nat) =>
nc_at a2 6 (fun (j8 : Nat) =>
nc_let ((f_X8_later mi (mi (o + 12 + 1 + j7) 6) (mi (o + 19 + 1 + j8) 8))) (fun (x9 : Int32) =>
nc_let (Option.bind (f_X8_refuse mi o (-3)) (fun (q11 : nc_Mem × Int32) =>
some (q11.1, q11.2))) (fun (k10 : Option (nc_Mem × Int32)) =>
if (mi (o + 19 + 1 + j8) 7) = (mi (o + 12 + 1 + j7) 5) then (
Option.bind (f_X8_mayNow mi o a1 a2 x9) (fun (q13 : Int32) =>
if q13 = 0 then (
k10)
else (
Option.bind (f_X8_hasRoom mi o a1 a2) (fun (q15 : Int32) =>
if q15 = 0 then (
k10)
else (
nc_let (nc_up mi (o + 12 + 1 + j7) 6 x9) (fun (mi17 : nc_Mem) =>
nc_let (nc_up mi17 (o + 19 + 1 + j8) 7 (10 + a1)) (fun (mi18 : nc_Mem) =>
nc_let (nc_up mi18 (o + 19 + 1 + j8) 8 0) (fun (mi19 : nc_Mem) =>
some (mi19, x9)))))))))
else (
k10))))))))))
def B_X8_go_58 (o : Nat) (a1 : Int32) (q7 : nc_Mem) (j8 : Nat) (k13 : Int32 → Option (nc_Mem × Int32)) (rc21 : Int32 → Int32 → Option (nc_Mem × Int32)) (x19 : Int32) (x20 : Int32) : Option (nc_Mem × Int32) :=
if (q7 o 9) ≤ x20 then (
k13 x19)
else (
nc_at x20 6 (fun (j23 : Nat) =>
if (q7 (o + 19 + 1 + j23) 7) = (10 + a1) then (
Option.bind (f_X8_mayNow q7 o a1 x20 (q7 (o + 12 + 1 + j8) 6)) (fun (q27 : Int32) =>
if q27 = 0 then (
nc_let ((x19 &&& 0)) (fun (x29 : Int32) =>
nc_let (x20 + 1) (fun (x30 : Int32) =>
rc21 x29 x30)))
else (
nc_let ((x19 &&& 1)) (fun (x31 : Int32) =>
nc_let (x20 + 1) (fun (x32 : Int32) =>
rc21 x31 x32)))))
else (
nc_let ((x19 &&& 1)) (fun (x25 : Int32) =>
nc_let (x20 + 1) (fun (x26 : Int32) =>
rc21 x25 x26)))))
def B_X8_go_58_52 (o : Nat) (a1 : Int32) (q7 : nc_Mem) (j8 : Nat) (k33 : Int32 → Option (nc_Mem × Int32)) (rc41 : Int32 → Int32 → Option (nc_Mem × Int32)) (x39 : Int32) (x40 : Int32) : Option (nc_Mem × Int32) :=
if (q7 o 9) ≤ x40 then (
k33 x39)
else (
nc_at x40 6 (fun (j43 : Nat) =>
if (q7 (o + 19 + 1 + j43) 7) = (10 + a1) then (
Option.bind (f_X8_mayNow q7 o a1 x40 (q7 (o + 12 + 1 + j8) 6)) (fun (q47 : Int32) =>
if q47 = 0 then (
nc_let ((x39 &&& 0)) (fun (x49 : Int32) =>
nc_let (x40 + 1) (fun (x50 : Int32) =>
rc41 x49 x50)))
else (
nc_let ((x39 &&& 1)) (fun (x51 : Int32) =>
nc_let (x40 + 1) (fun (x52 : Int32) =>
rc41 x51 x52)))))
else (
nc_let ((x39 &&& 1)) (fun (x45 : Int32) =>
nc_let (x40 + 1) (fun (x46 : Int32) =>
rc41 x45 x46)))))
def f_X8_go (mi : nc_Mem) (o : Nat) (a1 : Int32) (a2 : Int32) : Option (nc_Mem × Int32) :=
Option.bind (f_X8_isPerson mi o a1) (fun (q1 : Int32) =>
nc_let (Option.bind (f_X8_refuse mi o (-1)) (fun (q3 : nc_Mem × Int32) =>
some (q3.1, q3.2))) (fun (k2 : Option (nc_Mem × Int32)) =>
if q1 = 0 then (
k2)
else (
Option.bind (f_X8_isPlace mi o a2) (fun (q5 : Int32) =>
if q5 = 0 then (
k2)
else (
Option.bind (f_X8_findFar mi o) (fun (q7 : nc_Mem) =>
nc_at a1 6 (fun (j8 : Nat) =>
nc_at (q7 (o + 12 + 1 + j8) 5) 7 (fun (j9 : Nat) =>
nc_at a2 7 (fun (j10 : Nat) =>
nc_let ((q7 (o + 27 + 1 + j9) j10)) (fun (x11 : Int32) =>
if 100000 ≤ x11 then (
nc_let (fun (x14 : Int32) =>
if x14 = 0 then (
Option.bind (f_X8_refuse q7 o (-3)) (fun (q18 : nc_Mem × Int32) =>
some (q18.1, q18.2)))
else (
nc_let (nc_up q7 (o + 12 + 1 + j8) 5 a2) (fun (mi16 : nc_Mem) =>
nc_let (nc_up mi16 (o + 12 + 1 + j8) 6 ((mi16 (o + 12 + 1 + j8) 6) + x11)) (fun (mi17 : nc_Mem) =>
some (mi17, (mi17 (o + 12 + 1 + j8) 6)))))) (fun (k13 : Int32 → Option (nc_Mem × Int32)) =>
nc_loop (fun _ _ => none) (B_X8_go_58 o a1 q7 j8 k13) 200 0 0))
else (
nc_let (fun (x34 : Int32) =>
if x34 = 0 then (
Option.bind (f_X8_refuse q7 o (-3)) (fun (q38 : nc_Mem × Int32) =>
some (q38.1, q38.2)))
else (
nc_let (nc_up q7 (o + 12 + 1 + j8) 5 a2) (fun (mi36 : nc_Mem) =>
nc_let (nc_up mi36 (o + 12 + 1 + j8) 6 ((mi36 (o + 12 + 1 + j8) 6) + x11)) (fun (mi37 : nc_Mem) =>
some (mi37, (mi37 (o + 12 + 1 + j8) 6)))))) (fun (k33 : Int32 → Option (nc_Mem × Int32)) =>
nc_loop (fun _ _ => none) (B_X8_go_58_52 o a1 q7 j8 k33) 200 1 0))))))))))))
def f_X8_lay (mi : nc_Mem) (o : Nat) (a1 : Int32) (a2 : Int32) : Option (nc_Mem × Int32) :=
Option.bind (f_X8_isPerson mi o a1) (fun (q1 : Int32) =>
nc_let (Option.bind (f_X8_refuse mi o (-1)) (fun (q3 : nc_Mem × Int32) =>
some (q3.1, q3.2))) (fun (k2 : Option (nc_Mem × Int32)) =>
if q1 = 0 then (
k2)
else (
Option.bind (f_X8_isThing mi o a2) (fun (q5 : Int32) =>
if q5 = 0 then (
k2)
else (
nc_at a2 6 (fun (j7 : Nat) =>
if (mi (o + 19 + 1 + j7) 7) = (10 + a1) then (
nc_at a1 6 (fun (j9 : Nat) =>
nc_let (nc_up mi (o + 19 + 1 + j7) 7 (mi (o + 12 + 1 + j9) 5)) (fun (mi10 : nc_Mem) =>
nc_let (nc_up mi10 (o + 19 + 1 + j7) 8 (mi10 (o + 12 + 1 + j9) 6)) (fun (mi11 : nc_Mem) =>
some (mi11, (mi11 (o + 12 + 1 + j9) 6))))))
else (
Option.bind (f_X8_refuse mi o (-3)) (fun (q12 : nc_Mem × Int32) =>
some (q12.1, q12.2)))))))))
def f_X8_hand (mi : nc_Mem) (o : Nat) (a1 : Int32) (a2 : Int32) (a3 : Int32) : Option (nc_Mem × Int32) :=
Option.bind (f_X8_isPerson mi o a1) (fun (q1 : Int32) =>
nc_let (Option.bind (f_X8_refuse mi o (-1)) (fun (q3 : nc_Mem × Int32) =>
some (q3.1, q3.2))) (fun (k2 : Option (nc_Mem × Int32)) =>
if q1 = 0 then (
k2)
else (
Option.bind (f_X8_isPerson mi o a2) (fun (q5 : Int32) =>
if q5 = 0 then (
k2)
else (
if a1 = a2 then (
k2)
else (
Option.bind (f_X8_isThing mi o a3) (fun (q8 : Int32) =>
if q8 = 0 then (
k2)
else (
nc_at a1 6 (fun (j10 : Nat) =>
nc_at a2 6 (fun (j11 : Nat) =>
nc_let ((f_X8_later mi (mi (o + 12 + 1 + j10) 6) (mi (o + 12 + 1 + j11) 6))) (fun (x12 : Int32) =>
nc_at a3 6 (fun (j13 : Nat) =>
nc_let (Option.bind (f_X8_refuse mi o (-3)) (fun (q15 : nc_Mem × Int32) =>
some (q15.1, q15.2))) (fun (k14 : Option (nc_Mem × Int32)) =>
if (mi (o + 19 + 1 + j13) 7) = (10 + a1) then (
if (mi (o + 12 + 1 + j10) 5) = (mi (o + 12 + 1 + j11) 5) then (
Option.bind (f_X8_mayNow mi o a2 a3 x12) (fun (q18 : Int32) =>
if q18 = 0 then (
k14)
else (
Option.bind (f_X8_hasRoom mi o a2 a3) (fun (q20 : Int32) =>
if q20 = 0 then (
k14)
else (
nc_let (nc_up mi (o + 12 + 1 + j10) 6 x12) (fun (mi22 : nc_Mem) =>
nc_let (nc_up mi22 (o + 12 + 1 + j11) 6 x12) (fun (mi23 : nc_Mem) =>
nc_let (nc_up mi23 (o + 19 + 1 + j13) 7 (10 + a2)) (fun (mi24 : nc_Mem) =>
some (mi24, x12)))))))))
else (
k14))
else (
k14))))))))))))))
def f_X8_tarry (mi : nc_Mem) (o : Nat) (a1 : Int32) (a2 : Int32) : Option (nc_Mem × Int32) :=
Option.bind (f_X8_isPerson mi o a1) (fun (q1 : Int32) =>
if q1 = 0 then (
Option.bind (f_X8_refuse mi o (-1)) (fun (q9 : nc_Mem × Int32) =>
some (q9.1, q9.2)))
else (
if 1 ≤ a2 then (
if a2 ≤ 600 then (
nc_at a1 6 (fun (j5 : Nat) =>
nc_let (nc_up mi (o + 12 + 1 + j5) 6 ((mi (o + 12 + 1 + j5) 6) + a2)) (fun (mi6 : nc_Mem) =>
some (mi6, (mi6 (o + 12 + 1 + j5) 6)))))
else (
Option.bind (f_X8_refuse mi o (-6)) (fun (q7 : nc_Mem × Int32) =>
some (q7.1, q7.2))))
else (
Option.bind (f_X8_refuse mi o (-4)) (fun (q8 : nc_Mem × Int32) =>
some (q8.1, q8.2)))))
def f_X8_give (mi : nc_Mem) (o : Nat) (a1 : Int32) (a2 : Int32) : Option (nc_Mem × Int32) :=
Option.bind (f_X8_isPerson mi o a1) (fun (q1 : Int32) =>
nc_let (Option.bind (f_X8_refuse mi o (-1)) (fun (q3 : nc_Mem × Int32) =>
some (q3.1, q3.2))) (fun (k2 : Option (nc_Mem × Int32)) =>
if q1 = 0 then (
k2)
else (
Option.bind (f_X8_isThing mi o a2) (fun (q5 : Int32) =>
if q5 = 0 then (
k2)
else (
Option.bind (f_X8_isOwner mi o a1 a2) (fun (q7 : Int32) =>
if q7 = 0 then (
Option.bind (f_X8_refuse mi o (-3)) (fun (q12 : nc_Mem × Int32) =>
some (q12.1, q12.2)))
else (
nc_at a2 6 (fun (j9 : Nat) =>
nc_at a1 6 (fun (j10 : Nat) =>
nc_let (nc_up mi (o + 19 + 1 + j9) 9 (mi (o + 12 + 1 + j10) 6)) (fun (mi11 : nc_Mem) =>
some (mi11, (mi11 (o + 12 + 1 + j10) 6))))))))))))
def B_X8_there_4 (mi : nc_Mem) (o : Nat) (rc3 : Int32 → Int32 → Option (Int32)) (x1 : Int32) (x2 : Int32) : Option (Int32) :=
if (mi o 9) ≤ x2 then (
some x1)
else (
nc_at x2 6 (fun (j5 : Nat) =>
if (mi (o + 19 + 1 + j5) 7) = (mi (o + 19 + 1 + j5) 3) then (
if (mi (o + 19 + 1 + j5) 5) < (mi (o + 19 + 1 + j5) 8) then (
nc_let ((x1 + 0)) (fun (x10 : Int32) =>
nc_let (x2 + 1) (fun (x11 : Int32) =>
rc3 x10 x11)))
else (
nc_let ((x1 + 1)) (fun (x12 : Int32) =>
nc_let (x2 + 1) (fun (x13 : Int32) =>
rc3 x12 x13))))
else (
nc_let ((x1 + 0)) (fun (x7 : Int32) =>
nc_let (x2 + 1) (fun (x8 : Int32) =>
rc3 x7 x8)))))
def f_X8_there (mi : nc_Mem) (o : Nat) : Option (Int32) :=
nc_loop (fun _ _ => none) (B_X8_there_4 mi o) 200 0 0
def B_X8_findWays_96 (o : Nat) (j12 : Nat) (x18 : Int32) (mi20 : nc_Mem) (k24 : Int32 → Option (nc_Mem)) (rc35 : Int32 → Option (nc_Mem)) (x34 : Int32) : Option (nc_Mem) :=
if x34 = x18 then (
nc_let (x34 + 1) (fun (x37 : Int32) =>
rc35 x37))
else (
nc_at x18 7 (fun (j38 : Nat) =>
nc_at x34 7 (fun (j39 : Nat) =>
if (mi20 (o + 4 + 1 + j38) j39) = 0 then (
nc_let (x34 + 1) (fun (x41 : Int32) =>
rc35 x41))
else (
if ((mi20 (o + 4 + 1 + j38) j39) + (mi20 (o + 27 + 1 + j39) j12)) = (mi20 (o + 27 + 1 + j38) j12) then (
k24 x34)
else (
nc_let (x34 + 1) (fun (x43 : Int32) =>
rc35 x43))))))
def B_X8_findWays_88 (o : Nat) (x2 : Int32) (rc4 : Int32 → nc_Mem → Option (nc_Mem)) (j6 : Nat) (x8 : Int32) (j12 : Nat) (rc21 : Int32 → Int32 → nc_Mem → Option (nc_Mem)) (x18 : Int32) (x19 : Int32) (mi20 : nc_Mem) : Option (nc_Mem) :=
if x18 = x8 then (
nc_let (x2 + 1) (fun (x23 : Int32) =>
rc4 x23 mi20))
else (
nc_let (fun (x25 : Int32) =>
nc_at x18 7 (fun (j26 : Nat) =>
nc_at x25 7 (fun (j27 : Nat) =>
nc_let ((x19 + (mi20 (o + 4 + 1 + j26) j27))) (fun (x28 : Int32) =>
nc_at (mi20 (o + 49) j6) 7 (fun (j29 : Nat) =>
nc_let (nc_up mi20 (o + 35 + 1 + j6) j29 x25) (fun (mi30 : nc_Mem) =>
nc_let (nc_up mi30 (o + 49) j6 ((mi30 (o + 49) j6) + 1)) (fun (mi31 : nc_Mem) =>
nc_at (mi30 (o + 49) j6) 7 (fun (j32 : Nat) =>
nc_let (nc_up mi31 (o + 42 + 1 + j6) j32 x28) (fun (mi33 : nc_Mem) =>
rc21 x25 x28 mi33))))))))) (fun (k24 : Int32 → Option (nc_Mem)) =>
nc_loop (fun _ => none) (B_X8_findWays_96 o j12 x18 mi20 k24) 200 0))
def B_X8_findWays_6 (o : Nat) (rc4 : Int32 → nc_Mem → Option (nc_Mem)) (x2 : Int32) (mi3 : nc_Mem) : Option (nc_Mem) :=
if (mi3 o 7) ≤ x2 then (
some mi3)
else (
nc_at x2 6 (fun (j6 : Nat) =>
nc_let ((mi3 (o + 12 + 1 + j6) 0)) (fun (x7 : Int32) =>
nc_let ((mi3 (o + 12 + 1 + j6) 1)) (fun (x8 : Int32) =>
nc_let ((mi3 (o + 12 + 1 + j6) 2)) (fun (x9 : Int32) =>
nc_let (nc_up mi3 (o + 49) j6 0) (fun (mi10 : nc_Mem) =>
nc_at x7 7 (fun (j11 : Nat) =>
nc_at x8 7 (fun (j12 : Nat) =>
if 100000 ≤ (mi10 (o + 27 + 1 + j11) j12) then (
nc_let (x2 + 1) (fun (x14 : Int32) =>
rc4 x14 mi10))
else (
nc_let (nc_up mi10 (o + 35 + 1 + j6) 0 x7) (fun (mi15 : nc_Mem) =>
nc_let (nc_up mi15 (o + 42 + 1 + j6) 0 x9) (fun (mi16 : nc_Mem) =>
nc_let (nc_up mi16 (o + 49) j6 1) (fun (mi17 : nc_Mem) =>
nc_loop (fun _ _ _ => none) (B_X8_findWays_88 o x2 rc4 j6 x8 j12) 200 x7 x9 mi17))))))))))))
def f_X8_findWays (mi : nc_Mem) (o : Nat) : Option (nc_Mem) :=
Option.bind (f_X8_findFar mi o) (fun (q1 : nc_Mem) =>
nc_loop (fun _ _ => none) (B_X8_findWays_6 o) 200 0 q1)
def f_X8_mayInMind (mi : nc_Mem) (o : Nat) (a1 : Int32) (a2 : Int32) (a3 : Int32) (a4 : Int32) (a5 : Int32) : Option (Int32) :=
Option.bind (f_X8_isFree mi o a2 a3) (fun (q1 : Int32) =>
if q1 = 0 then (
some 0)
else (
if a2 = a5 then (
some 1)
else (
Option.bind (f_X8_lets mi o a1 a2 a3 a4 (-9)) (fun (q4 : Int32) =>
if q4 = 0 then (
some 0)
else (
some 1)))))
def B_X8_findSoon_68 (o : Nat) (a1 : Int32) (a2 : Int32) (a3 : Int32) (x11 : Int32) (rc13 : Int32 → Int32 → nc_Mem → Option (nc_Mem)) (rc19 : Int32 → Int32 → Int32 → nc_Mem → Option (nc_Mem)) (x15 : Int32) (x16 : Int32) (x17 : Int32) (mi18 : nc_Mem) : Option (nc_Mem) :=
nc_at x11 6 (fun (j20 : Nat) =>
if (mi18 (o + 49) j20) ≤ x17 then (
nc_let (x11 + 1) (fun (x22 : Int32) =>
rc13 x15 x22 mi18))
else (
nc_at x17 7 (fun (j23 : Nat) =>
nc_let ((mi18 (o + 35 + 1 + j20) j23)) (fun (x24 : Int32) =>
nc_let ((mi18 (o + 42 + 1 + j20) j23)) (fun (x25 : Int32) =>
nc_let (fun (x27 : Int32) (mi28 : nc_Mem) =>
nc_at x24 7 (fun (j29 : Nat) =>
if x25 < (mi28 (o + 50) j29) then (
nc_let ((x16 ||| 0)) (fun (x31 : Int32) =>
nc_let (x17 + 1) (fun (x32 : Int32) =>
rc19 x27 x31 x32 mi28)))
else (
Option.bind (f_X8_mayInMind mi28 o a1 x11 a2 x25 a3) (fun (q33 : Int32) =>
if q33 = 0 then (
nc_let ((x16 ||| 0)) (fun (x35 : Int32) =>
nc_let (x17 + 1) (fun (x36 : Int32) =>
rc19 x27 x35 x36 mi28)))
else (
nc_let ((x16 ||| 1)) (fun (x37 : Int32) =>
nc_let (x17 + 1) (fun (x38 : Int32) =>
rc19 x27 x37 x38 mi28))))))) (fun (k26 : Int32 → nc_Mem → Option (nc_Mem)) =>
if x16 = 0 then (
k26 x15 mi18)
else (
nc_at x24 7 (fun (j40 : Nat) =>
if (mi18 (o + 50) j40) ≤ x25 then (
k26 x15 mi18)
else (
nc_let (nc_up mi18 (o + 50) j40 x25) (fun (mi42 : nc_Mem) =>
k26 1 mi42))))))))))
def B_X8_findSoon_53 (o : Nat) (a1 : Int32) (a2 : Int32) (a3 : Int32) (rc8 : Int32 → nc_Mem → Option (nc_Mem)) (rc13 : Int32 → Int32 → nc_Mem → Option (nc_Mem)) (x10 : Int32) (x11 : Int32) (mi12 : nc_Mem) : Option (nc_Mem) :=
if (mi12 o 7) ≤ x11 then (
rc8 x10 mi12)
else (
nc_loop (fun _ _ _ _ => none) (B_X8_findSoon_68 o a1 a2 a3 x11 rc13) 200 x10 0 0 mi12)
def B_X8_findSoon_42 (o : Nat) (a1 : Int32) (a2 : Int32) (a3 : Int32) (rc8 : Int32 → nc_Mem → Option (nc_Mem)) (x6 : Int32) (mi7 : nc_Mem) : Option (nc_Mem) :=
if x6 = 0 then (
some mi7)
else (
nc_loop (fun _ _ _ => none) (B_X8_findSoon_53 o a1 a2 a3 rc8) 200 0 0 mi7)
def B_X8_findSoon_3 (o : Nat) (k1 : nc_Mem → Option (nc_Mem)) (rc45 : Int32 → nc_Mem → Option (nc_Mem)) (x43 : Int32) (mi44 : nc_Mem) : Option (nc_Mem) :=
if 7 ≤ x43 then (
k1 mi44)
else (
nc_at x43 7 (fun (j47 : Nat) =>
nc_let (nc_up mi44 (o + 50) j47 100000) (fun (mi48 : nc_Mem) =>
nc_let (x43 + 1) (fun (x49 : Int32) =>
rc45 x49 mi48))))
def f_X8_findSoon (mi : nc_Mem) (o : Nat) (a1 : Int32) (a2 : Int32) (a3 : Int32) : Option (nc_Mem) :=
nc_let (fun (mi2 : nc_Mem) =>
nc_at a2 6 (fun (j3 : Nat) =>
nc_at (mi2 (o + 19 + 1 + j3) 2) 7 (fun (j4 : Nat) =>
nc_let (nc_up mi2 (o + 50) j4 0) (fun (mi5 : nc_Mem) =>
nc_loop (fun _ _ => none) (B_X8_findSoon_42 o a1 a2 a3) 200 1 mi5)))) (fun (k1 : nc_Mem → Option (nc_Mem)) =>
nc_loop (fun _ _ => none) (B_X8_findSoon_3 o k1) 200 0 mi)
def f_X8_soonestBy (mi : nc_Mem) (o : Nat) (a1 : Int32) (a2 : Int32) (a3 : Int32) : Option (nc_Mem × Int32) :=
Option.bind (f_X8_findSoon mi o a1 a2 a3) (fun (q1 : nc_Mem) =>
nc_at a2 6 (fun (j2 : Nat) =>
nc_at (q1 (o + 19 + 1 + j2) 3) 7 (fun (j3 : Nat) =>
nc_let ((q1 (o + 50) j3)) (fun (x4 : Int32) =>
if 100000 ≤ x4 then (
some (q1, (-9)))
else (
some (q1, x4))))))
def f_X8_soonest (mi : nc_Mem) (o : Nat) (a1 : Int32) : Option (nc_Mem × Int32) :=
Option.bind (f_X8_isThing mi o a1) (fun (q1 : Int32) =>
if q1 = 0 then (
Option.bind (f_X8_refuse mi o (-1)) (fun (q5 : nc_Mem × Int32) =>
some (q5.1, q5.2)))
else (
Option.bind (f_X8_findWays mi o) (fun (q3 : nc_Mem) =>
Option.bind (f_X8_soonestBy q3 o (q3 o 11) a1 (-9)) (fun (q4 : nc_Mem × Int32) =>
some (q4.1, q4.2)))))
def B_X8_bringsFrom_7 (mi : nc_Mem) (o : Nat) (a1 : Int32) (a2 : Int32) (a3 : Int32) (a4 : Int32) (rc3 : Int32 → Int32 → Option (Int32)) (x1 : Int32) (x2 : Int32) : Option (Int32) :=
nc_at a1 6 (fun (j4 : Nat) =>
if (mi (o + 49) j4) ≤ x2 then (
some (-9))
else (
nc_at x2 7 (fun (j6 : Nat) =>
nc_let ((mi (o + 35 + 1 + j4) j6)) (fun (x7 : Int32) =>
if x7 = a3 then (
if (mi (o + 42 + 1 + j4) j6) = a4 then (
some x1)
else (
some (-9)))
else (
nc_at x7 7 (fun (j9 : Nat) =>
if (mi (o + 42 + 1 + j4) j6) < (mi (o + 50) j9) then (
nc_let (x2 + 1) (fun (x11 : Int32) =>
rc3 x1 x11))
else (
Option.bind (f_X8_mayInMind mi o (mi o 11) a1 a2 (mi (o + 42 + 1 + j4) j6) (-9)) (fun (q12 : Int32) =>
if q12 = 0 then (
nc_let (x2 + 1) (fun (x14 : Int32) =>
rc3 x1 x14))
else (
nc_let (x2 + 1) (fun (x15 : Int32) =>
rc3 x2 x15))))))))))
def f_X8_bringsFrom (mi : nc_Mem) (o : Nat) (a1 : Int32) (a2 : Int32) (a3 : Int32) (a4 : Int32) : Option (Int32) :=
nc_loop (fun _ _ => none) (B_X8_bringsFrom_7 mi o a1 a2 a3 a4) 200 (-9) 0
def B_X8_findOver_26 (o : Nat) (a1 : Int32) (x3 : Int32) (mi5 : nc_Mem) (k8 : Int32 → Option (nc_Mem × Int32)) (rc19 : Int32 → Option (nc_Mem × Int32)) (x18 : Int32) : Option (nc_Mem × Int32) :=
nc_at x3 7 (fun (j20 : Nat) =>
Option.bind (f_X8_bringsFrom mi5 o x18 a1 x3 (mi5 (o + 50) j20)) (fun (q21 : Int32) =>
if q21 = (-9) then (
nc_let (x18 + 1) (fun (x23 : Int32) =>
rc19 x23))
else (
k8 x18)))
def B_X8_findOver_11 (o : Nat) (a1 : Int32) (j1 : Nat) (rc6 : Int32 → Int32 → nc_Mem → Option (nc_Mem × Int32)) (x3 : Int32) (x4 : Int32) (mi5 : nc_Mem) : Option (nc_Mem × Int32) :=
if x3 = (mi5 (o + 19 + 1 + j1) 2) then (
some (mi5, x4))
else (
nc_let (fun (x9 : Int32) =>
nc_let (x4 + 1) (fun (x10 : Int32) =>
nc_at x4 7 (fun (j11 : Nat) =>
nc_let (nc_up mi5 (o + 51) j11 x9) (fun (mi12 : nc_Mem) =>
nc_at x9 6 (fun (j13 : Nat) =>
nc_at x3 7 (fun (j14 : Nat) =>
Option.bind (f_X8_bringsFrom mi12 o x9 a1 x3 (mi12 (o + 50) j14)) (fun (q15 : Int32) =>
nc_at q15 7 (fun (j16 : Nat) =>
nc_let ((mi12 (o + 35 + 1 + j13) j16)) (fun (x17 : Int32) =>
rc6 x17 x10 mi12))))))))) (fun (k8 : Int32 → Option (nc_Mem × Int32)) =>
nc_loop (fun _ => none) (B_X8_findOver_26 o a1 x3 mi5 k8) 200 0))
def f_X8_findOver (mi : nc_Mem) (o : Nat) (a1 : Int32) : Option (nc_Mem × Int32) :=
nc_at a1 6 (fun (j1 : Nat) =>
nc_let ((mi (o + 19 + 1 + j1) 3)) (fun (x2 : Int32) =>
nc_loop (fun _ _ _ => none) (B_X8_findOver_11 o a1 j1) 200 x2 0 mi))
def f_X8_over (mi : nc_Mem) (o : Nat) (a1 : Int32) (a2 : Int32) : Option (nc_Mem × Int32) :=
Option.bind (f_X8_isThing mi o a1) (fun (q1 : Int32) =>
if q1 = 0 then (
Option.bind (f_X8_refuse mi o (-1)) (fun (q12 : nc_Mem × Int32) =>
some (q12.1, q12.2)))
else (
if (-1) ≤ a2 then (
Option.bind (f_X8_findWays mi o) (fun (q4 : nc_Mem) =>
Option.bind (f_X8_soonestBy q4 o (q4 o 11) a1 (-9)) (fun (q5 : nc_Mem × Int32) =>
if q5.2 = (-9) then (
some (q5.1, (-9)))
else (
Option.bind (f_X8_findOver q5.1 o a1) (fun (q7 : nc_Mem × Int32) =>
if a2 = (-1) then (
some (q7.1, q7.2))
else (
if q7.2 ≤ a2 then (
some (q7.1, (-9)))
else (
nc_at ((q7.2 - 1) - a2) 7 (fun (j10 : Nat) =>
some (q7.1, (q7.1 (o + 51) j10))))))))))
else (
Option.bind (f_X8_refuse mi o (-4)) (fun (q11 : nc_Mem × Int32) =>
some (q11.1, q11.2)))))
def B_X8_bars_38 (o : Nat) (a1 : Int32) (rc9 : Int32 → Int32 → nc_Mem → Option (nc_Mem × Int32)) (x6 : Int32) (x7 : Int32) (mi8 : nc_Mem) : Option (nc_Mem × Int32) :=
if (mi8 o 7) ≤ x7 then (
some (mi8, x6))
else (
Option.bind (f_X8_isFree mi8 o x7 a1) (fun (q11 : Int32) =>
if q11 = 0 then (
nc_let ((x6 ||| 0)) (fun (x13 : Int32) =>
nc_let (x7 + 1) (fun (x14 : Int32) =>
rc9 x13 x14 mi8)))
else (
Option.bind (f_X8_soonestBy mi8 o (mi8 o 11) a1 x7) (fun (q15 : nc_Mem × Int32) =>
if q15.2 = (-9) then (
nc_let ((x6 ||| 0)) (fun (x17 : Int32) =>
nc_let (x7 + 1) (fun (x18 : Int32) =>
rc9 x17 x18 q15.1)))
else (
nc_let ((x6 ||| ((1 : Int32) <<< (x7 &&& 31)))) (fun (x19 : Int32) =>
nc_let (x7 + 1) (fun (x20 : Int32) =>
rc9 x19 x20 q15.1)))))))
def f_X8_bars (mi : nc_Mem) (o : Nat) (a1 : Int32) : Option (nc_Mem × Int32) :=
Option.bind (f_X8_isThing mi o a1) (fun (q1 : Int32) =>
if q1 = 0 then (
Option.bind (f_X8_refuse mi o (-1)) (fun (q21 : nc_Mem × Int32) =>
some (q21.1, q21.2)))
else (
Option.bind (f_X8_findWays mi o) (fun (q3 : nc_Mem) =>
Option.bind (f_X8_soonestBy q3 o (q3 o 11) a1 (-9)) (fun (q4 : nc_Mem × Int32) =>
if q4.2 = (-9) then (
nc_loop (fun _ _ _ => none) (B_X8_bars_38 o a1) 200 0 0 q4.1)
else (
some (q4.1, 0))))))
def B_X8_never_8 (o : Nat) (rc5 : Int32 → Int32 → nc_Mem → Option (nc_Mem × Int32)) (x2 : Int32) (x3 : Int32) (mi4 : nc_Mem) : Option (nc_Mem × Int32) :=
if (mi4 o 9) ≤ x3 then (
some (mi4, x2))
else (
Option.bind (f_X8_soonestBy mi4 o (mi4 o 11) x3 (-9)) (fun (q7 : nc_Mem × Int32) =>
if q7.2 = (-9) then (
nc_let ((x2 ||| ((1 : Int32) <<< (x3 &&& 31)))) (fun (x11 : Int32) =>
nc_let (x3 + 1) (fun (x12 : Int32) =>
rc5 x11 x12 q7.1)))
else (
nc_let ((x2 ||| 0)) (fun (x9 : Int32) =>
nc_let (x3 + 1) (fun (x10 : Int32) =>
rc5 x9 x10 q7.1)))))
def f_X8_never (mi : nc_Mem) (o : Nat) : Option (nc_Mem × Int32) :=
Option.bind (f_X8_findWays mi o) (fun (q1 : nc_Mem) =>
nc_loop (fun _ _ _ => none) (B_X8_never_8 o) 200 0 0 q1)
def B_X8_isComeBy_13 (mi : nc_Mem) (o : Nat) (a1 : Int32) (a2 : Int32) (x1 : Int32) (rc2 : Int32 → Option (Int32)) (rc5 : Int32 → Option (Int32)) (x4 : Int32) : Option (Int32) :=
nc_at x1 6 (fun (j6 : Nat) =>
if (mi (o + 49) j6) ≤ x4 then (
nc_let (x1 + 1) (fun (x8 : Int32) =>
rc2 x8))
else (
nc_at x4 7 (fun (j9 : Nat) =>
if (mi (o + 35 + 1 + j6) j9) = a2 then (
Option.bind (f_X8_mayInMind mi o (mi o 11) x1 a1 (mi (o + 42 + 1 + j6) j9) (-9)) (fun (q12 : Int32) =>
if q12 = 0 then (
nc_let (x4 + 1) (fun (x14 : Int32) =>
rc5 x14))
else (
some 1)))
else (
nc_let (x4 + 1) (fun (x11 : Int32) =>
rc5 x11)))))
def B_X8_isComeBy_2 (mi : nc_Mem) (o : Nat) (a1 : Int32) (a2 : Int32) (rc2 : Int32 → Option (Int32)) (x1 : Int32) : Option (Int32) :=
if (mi o 7) ≤ x1 then (
some 0)
else (
nc_loop (fun _ => none) (B_X8_isComeBy_13 mi o a1 a2 x1 rc2) 200 0)
def f_X8_isComeBy (mi : nc_Mem) (o : Nat) (a1 : Int32) (a2 : Int32) : Option (Int32) :=
nc_loop (fun _ => none) (B_X8_isComeBy_2 mi o a1 a2) 200 0
def f_X8_why (mi : nc_Mem) (o : Nat) (a1 : Int32) : Option (nc_Mem × Int32) :=
Option.bind (f_X8_isThing mi o a1) (fun (q1 : Int32) =>
if q1 = 0 then (
Option.bind (f_X8_refuse mi o (-1)) (fun (q11 : nc_Mem × Int32) =>
some (q11.1, q11.2)))
else (
Option.bind (f_X8_findWays mi o) (fun (q3 : nc_Mem) =>
Option.bind (f_X8_soonestBy q3 o (q3 o 11) a1 (-9)) (fun (q4 : nc_Mem × Int32) =>
if q4.2 = (-9) then (
nc_at a1 6 (fun (j6 : Nat) =>
Option.bind (f_X8_isComeBy q4.1 o a1 (q4.1 (o + 19 + 1 + j6) 2)) (fun (q7 : Int32) =>
if q7 = 0 then (
some (q4.1, 1))
else (
Option.bind (f_X8_isComeBy q4.1 o a1 (q4.1 (o + 19 + 1 + j6) 3)) (fun (q9 : Int32) =>
if q9 = 0 then (
some (q4.1, 2))
else (
some (q4.1, 4)))))))
else (
some (q4.1, 0))))))
def f_X8_roundOf (mi : nc_Mem) (o : Nat) (a1 : Int32) (a2 : Int32) : Option (Int32) :=
nc_at a1 6 (fun (j1 : Nat) =>
nc_at a2 6 (fun (j2 : Nat) =>
nc_at (mi (o + 12 + 1 + j1) 0) 7 (fun (j3 : Nat) =>
nc_at (mi (o + 19 + 1 + j2) 2) 7 (fun (j4 : Nat) =>
nc_let ((mi (o + 27 + 1 + j3) j4)) (fun (x5 : Int32) =>
nc_at (mi (o + 19 + 1 + j2) 3) 7 (fun (j6 : Nat) =>
nc_let ((mi (o + 27 + 1 + j4) j6)) (fun (x7 : Int32) =>
nc_at (mi (o + 12 + 1 + j1) 1) 7 (fun (j8 : Nat) =>
nc_let ((mi (o + 27 + 1 + j6) j8)) (fun (x9 : Int32) =>
if 100000 ≤ x5 then (
some (-9))
else (
if 100000 ≤ x7 then (
some (-9))
else (
if x9 < 100000 then (
nc_let (((mi (o + 12 + 1 + j1) 2) + x5)) (fun (x13 : Int32) =>
Option.bind (f_X8_mayInMind mi o (mi o 11) a1 a2 x13 (-9)) (fun (q14 : Int32) =>
if q14 = 0 then (
some (-9))
else (
if (mi (o + 19 + 1 + j2) 5) < (x13 + x7) then (
some (-9))
else (
some (x13 + x7))))))
else (
some (-9)))))))))))))
def f_X8_moreOf (mi : nc_Mem) (o : Nat) (a1 : Int32) (a2 : Int32) : Option (Int32) :=
nc_at a1 6 (fun (j1 : Nat) =>
nc_at a2 6 (fun (j2 : Nat) =>
nc_at (mi (o + 12 + 1 + j1) 0) 7 (fun (j3 : Nat) =>
nc_at (mi (o + 19 + 1 + j2) 2) 7 (fun (j4 : Nat) =>
nc_at (mi (o + 19 + 1 + j2) 3) 7 (fun (j5 : Nat) =>
nc_at (mi (o + 12 + 1 + j1) 1) 7 (fun (j6 : Nat) =>
some ((((mi (o + 27 + 1 + j3) j4) + (mi (o + 27 + 1 + j4) j5)) + (mi (o + 27 + 1 + j5) j6)) - (mi (o + 27 + 1 + j3) j6))))))))
def f_X8_round (mi : nc_Mem) (o : Nat) (a1 : Int32) (a2 : Int32) (a3 : Int32) : Option (nc_Mem × Int32) :=
Option.bind (f_X8_isPerson mi o a1) (fun (q1 : Int32) =>
nc_let (Option.bind (f_X8_refuse mi o (-1)) (fun (q3 : nc_Mem × Int32) =>
some (q3.1, q3.2))) (fun (k2 : Option (nc_Mem × Int32)) =>
if q1 = 0 then (
k2)
else (
Option.bind (f_X8_isThing mi o a2) (fun (q5 : Int32) =>
if q5 = 0 then (
k2)
else (
if (f_X8_in mi a3 0 1) = 0 then (
Option.bind (f_X8_refuse mi o (-2)) (fun (q13 : nc_Mem × Int32) =>
some (q13.1, q13.2)))
else (
Option.bind (f_X8_findFar mi o) (fun (q8 : nc_Mem) =>
Option.bind (f_X8_roundOf q8 o a1 a2) (fun (q9 : Int32) =>
if q9 = (-9) then (
some (q8, q9))
else (
if a3 = 0 then (
some (q8, q9))
else (
Option.bind (f_X8_moreOf q8 o a1 a2) (fun (q12 : Int32) =>
some (q8, q12))))))))))))
def B_X8_seek_76 (rc : nc_Mem → Int32 → Int32 → Int32 → Int32 → Option (nc_Mem)) (o : Nat) (a1 : Int32) (a2 : Int32) (a3 : Int32) (a4 : Int32) (j2 : Nat) (k5 : nc_Mem → Option (nc_Mem)) (rc10 : Int32 → nc_Mem → Option (nc_Mem)) (x8 : Int32) (mi9 : nc_Mem) : Option (nc_Mem) :=
if (mi9 o 9) ≤ x8 then (
k5 mi9)
else (
if a1 = a4 then (
k5 mi9)
else (
if ((a2 >>> (x8 &&& 31)) &&& 1) = 0 then (
Option.bind (f_X8_roundOf mi9 o a1 x8) (fun (q15 : Int32) =>
if q15 = (-9) then (
nc_let (x8 + 1) (fun (x17 : Int32) =>
rc10 x17 mi9))
else (
nc_let (nc_up mi9 (o + 52) j2 x8) (fun (mi18 : nc_Mem) =>
nc_at x8 6 (fun (j19 : Nat) =>
Option.bind (f_X8_moreOf mi18 o a1 x8) (fun (q20 : Int32) =>
Option.bind (rc mi18 (a1 + 1) (a2 ||| ((1 : Int32) <<< (x8 &&& 31))) ((a3 + (mi18 (o + 19 + 1 + j19) 6)) - q20) a4) (fun (q21 : nc_Mem) =>
nc_let (x8 + 1) (fun (x22 : Int32) =>
rc10 x22 q21))))))))
else (
nc_let (x8 + 1) (fun (x14 : Int32) =>
rc10 x14 mi9))))
def B_X8_seek_24 (o : Nat) (rc27 : Int32 → nc_Mem → Option (nc_Mem)) (x25 : Int32) (mi26 : nc_Mem) : Option (nc_Mem) :=
if (mi26 o 7) ≤ x25 then (
some mi26)
else (
nc_at x25 6 (fun (j29 : Nat) =>
nc_let (nc_up mi26 (o + 53) j29 (mi26 (o + 52) j29)) (fun (mi30 : nc_Mem) =>
nc_let (x25 + 1) (fun (x31 : Int32) =>
rc27 x31 mi30))))
def B_X8_seek (o : Nat) (rc : nc_Mem → Int32 → Int32 → Int32 → Int32 → Option (nc_Mem)) (mi : nc_Mem) (a1 : Int32) (a2 : Int32) (a3 : Int32) (a4 : Int32) : Option (nc_Mem) :=
if a1 = (mi o 7) then (
if a3 ≤ (mi o 26) then (
some mi)
else (
nc_let (nc_up mi o 26 a3) (fun (mi24 : nc_Mem) =>
nc_loop (fun _ _ => none) (B_X8_seek_24 o) 200 0 mi24)))
else (
nc_at a1 6 (fun (j2 : Nat) =>
nc_let (nc_up mi (o + 52) j2 (-9)) (fun (mi3 : nc_Mem) =>
Option.bind (rc mi3 (a1 + 1) a2 a3 a4) (fun (q4 : nc_Mem) =>
nc_let (fun (mi6 : nc_Mem) =>
nc_let (nc_up mi6 (o + 52) j2 (-9)) (fun (mi7 : nc_Mem) =>
some mi7)) (fun (k5 : nc_Mem → Option (nc_Mem)) =>
nc_loop (fun _ _ => none) (B_X8_seek_76 rc o a1 a2 a3 a4 j2 k5) 200 0 q4)))))
def f_X8_seek (n : Nat) (o : Nat) : nc_Mem → Int32 → Int32 → Int32 → Int32 → Option (nc_Mem) := nc_loop (fun _ _ _ _ _ => none) (B_X8_seek o) n
def B_X8_eachBy_11 (o : Nat) (k3 : nc_Mem → Option (nc_Mem × Int32)) (rc8 : Int32 → nc_Mem → Option (nc_Mem × Int32)) (x6 : Int32) (mi7 : nc_Mem) : Option (nc_Mem × Int32) :=
if (mi7 o 7) ≤ x6 then (
k3 mi7)
else (
nc_at x6 6 (fun (j10 : Nat) =>
nc_let (nc_up mi7 (o + 53) j10 (-9)) (fun (mi11 : nc_Mem) =>
nc_let (x6 + 1) (fun (x12 : Int32) =>
rc8 x12 mi11))))
def f_X8_eachBy (mi : nc_Mem) (o : Nat) (a1 : Int32) : Option (nc_Mem × Int32) :=
Option.bind (f_X8_findFar mi o) (fun (q1 : nc_Mem) =>
nc_let (nc_up q1 o 26 0) (fun (mi2 : nc_Mem) =>
nc_let (fun (mi4 : nc_Mem) =>
Option.bind (f_X8_seek 8 o mi4 0 0 0 a1) (fun (q5 : nc_Mem) =>
some (q5, (q5 o 26)))) (fun (k3 : nc_Mem → Option (nc_Mem × Int32)) =>
nc_loop (fun _ _ => none) (B_X8_eachBy_11 o k3) 200 0 mi2)))
def f_X8_each (mi : nc_Mem) (o : Nat) (a1 : Int32) : Option (nc_Mem × Int32) :=
nc_let (Option.bind (f_X8_eachBy mi o (-9)) (fun (q2 : nc_Mem × Int32) =>
if a1 = (-1) then (
some (q2.1, q2.2))
else (
nc_at a1 6 (fun (j4 : Nat) =>
some (q2.1, (q2.1 (o + 53) j4)))))) (fun (k1 : Option (nc_Mem × Int32)) =>
if a1 = (-1) then (
k1)
else (
Option.bind (f_X8_isPerson mi o a1) (fun (q6 : Int32) =>
if q6 = 0 then (
Option.bind (f_X8_refuse mi o (-1)) (fun (q8 : nc_Mem × Int32) =>
some (q8.1, q8.2)))
else (
k1))))
def f_X8_pay (mi : nc_Mem) (o : Nat) (a1 : Int32) : Option (nc_Mem × Int32) :=
Option.bind (f_X8_isPerson mi o a1) (fun (q1 : Int32) =>
if q1 = 0 then (
Option.bind (f_X8_refuse mi o (-1)) (fun (q5 : nc_Mem × Int32) =>
some (q5.1, q5.2)))
else (
Option.bind (f_X8_eachBy mi o (-9)) (fun (q3 : nc_Mem × Int32) =>
Option.bind (f_X8_eachBy q3.1 o a1) (fun (q4 : nc_Mem × Int32) =>
some (q4.1, (q3.2 - q4.2))))))
def f_X8_isInTime (mi : nc_Mem) (o : Nat) (a1 : Int32) : Option (nc_Mem × Int32) :=
Option.bind (f_X8_soonestBy mi o (mi o 11) a1 (-9)) (fun (q1 : nc_Mem × Int32) =>
if q1.2 = (-9) then (
some (q1.1, 0))
else (
nc_at a1 6 (fun (j3 : Nat) =>
if (q1.1 (o + 19 + 1 + j3) 5) < q1.2 then (
some (q1.1, 0))
else (
some (q1.1, 1)))))
def B_X8_fewest_8 (o : Nat) (rc5 : Int32 → Int32 → nc_Mem → Option (nc_Mem × Int32)) (x2 : Int32) (x3 : Int32) (mi4 : nc_Mem) : Option (nc_Mem × Int32) :=
if (mi4 o 9) ≤ x3 then (
some (mi4, x2))
else (
Option.bind (f_X8_isInTime mi4 o x3) (fun (q7 : nc_Mem × Int32) =>
if q7.2 = 0 then (
nc_at x3 6 (fun (j10 : Nat) =>
nc_at (q7.1 (o + 19 + 1 + j10) 2) 7 (fun (j11 : Nat) =>
nc_at (q7.1 (o + 19 + 1 + j10) 3) 7 (fun (j12 : Nat) =>
if ((q7.1 (o + 27 + 1 + 0) j11) + (q7.1 (o + 27 + 1 + j11) j12)) ≤ (q7.1 (o + 19 + 1 + j10) 5) then (
nc_let (x2 + 1) (fun (x14 : Int32) =>
nc_let (x3 + 1) (fun (x15 : Int32) =>
rc5 x14 x15 q7.1)))
else (
some (q7.1, (-9)))))))
else (
nc_let (x3 + 1) (fun (x9 : Int32) =>
rc5 x2 x9 q7.1))))
def f_X8_fewest (mi : nc_Mem) (o : Nat) : Option (nc_Mem × Int32) :=
Option.bind (f_X8_findWays mi o) (fun (q1 : nc_Mem) =>
nc_loop (fun _ _ _ => none) (B_X8_fewest_8 o) 200 0 0 q1)
def B_X8_sumBy_8 (o : Nat) (a1 : Int32) (rc5 : Int32 → Int32 → nc_Mem → Option (nc_Mem × Int32)) (x2 : Int32) (x3 : Int32) (mi4 : nc_Mem) : Option (nc_Mem × Int32) :=
if (mi4 o 9) ≤ x3 then (
some (mi4, x2))
else (
Option.bind (f_X8_soonestBy mi4 o a1 x3 (-9)) (fun (q7 : nc_Mem × Int32) =>
if q7.2 = (-9) then (
nc_let ((x2 + 999)) (fun (x11 : Int32) =>
nc_let (x3 + 1) (fun (x12 : Int32) =>
rc5 x11 x12 q7.1)))
else (
nc_let ((x2 + q7.2)) (fun (x9 : Int32) =>
nc_let (x3 + 1) (fun (x10 : Int32) =>
rc5 x9 x10 q7.1)))))
def f_X8_sumBy (mi : nc_Mem) (o : Nat) (a1 : Int32) : Option (nc_Mem × Int32) :=
Option.bind (f_X8_findWays mi o) (fun (q1 : nc_Mem) =>
nc_loop (fun _ _ _ => none) (B_X8_sumBy_8 o a1) 200 0 0 q1)
def f_X8_beside (mi : nc_Mem) (o : Nat) : Option (nc_Mem × Int32) :=
Option.bind (f_X8_sumBy mi o (mi o 11)) (fun (q1 : nc_Mem × Int32) =>
Option.bind (f_X8_sumBy q1.1 o 3) (fun (q2 : nc_Mem × Int32) =>
some (q2.1, (q1.2 - q2.2))))
def B_X8_change_2 (o : Nat) (a1 : Int32) (a2 : Int32) (rc3 : Int32 → nc_Mem → Option (nc_Mem)) (x1 : Int32) (mi2 : nc_Mem) : Option (nc_Mem) :=
if 2 ≤ x1 then (
some mi2)
else (
nc_at a1 6 (fun (j5 : Nat) =>
nc_at x1 7 (fun (j6 : Nat) =>
nc_let ((mi2 (o + 12 + 1 + j5) j6)) (fun (x7 : Int32) =>
nc_at a2 6 (fun (j8 : Nat) =>
nc_let (nc_up mi2 (o + 12 + 1 + j5) j6 (mi2 (o + 12 + 1 + j8) j6)) (fun (mi9 : nc_Mem) =>
nc_let (nc_up mi9 (o + 12 + 1 + j8) j6 x7) (fun (mi10 : nc_Mem) =>
nc_let (x1 + 1) (fun (x11 : Int32) =>
rc3 x11 mi10))))))))
def f_X8_change (mi : nc_Mem) (o : Nat) (a1 : Int32) (a2 : Int32) : Option (nc_Mem) :=
nc_loop (fun _ _ => none) (B_X8_change_2 o a1 a2) 200 0 mi
def B_X8_houses_27 (o : Nat) (x4 : Int32) (rc6 : Int32 → Int32 → Int32 → nc_Mem → Option (nc_Mem × Int32)) (rc13 : Int32 → Int32 → Int32 → nc_Mem → Option (nc_Mem × Int32)) (x9 : Int32) (x10 : Int32) (x11 : Int32) (mi12 : nc_Mem) : Option (nc_Mem × Int32) :=
if (mi12 o 7) ≤ x11 then (
nc_let (x4 + 1) (fun (x15 : Int32) =>
rc6 x9 x10 x15 mi12))
else (
Option.bind (f_X8_change mi12 o x4 x11) (fun (q16 : nc_Mem) =>
Option.bind (f_X8_sumBy q16 o (q16 o 11)) (fun (q17 : nc_Mem × Int32) =>
Option.bind (f_X8_change q17.1 o x4 x11) (fun (q18 : nc_Mem) =>
if x9 ≤ q17.2 then (
nc_let (x11 + 1) (fun (x20 : Int32) =>
rc13 x9 x10 x20 q18))
else (
nc_let (((10 * x4) + x11)) (fun (x21 : Int32) =>
nc_let (x11 + 1) (fun (x22 : Int32) =>
rc13 q17.2 x21 x22 q18)))))))
def B_X8_houses_14 (o : Nat) (rc6 : Int32 → Int32 → Int32 → nc_Mem → Option (nc_Mem × Int32)) (x2 : Int32) (x3 : Int32) (x4 : Int32) (mi5 : nc_Mem) : Option (nc_Mem × Int32) :=
if (mi5 o 7) ≤ x4 then (
some (mi5, x3))
else (
nc_let ((x4 + 1)) (fun (x8 : Int32) =>
nc_loop (fun _ _ _ _ => none) (B_X8_houses_27 o x4 rc6) 200 x2 x3 x8 mi5))
def f_X8_houses (mi : nc_Mem) (o : Nat) : Option (nc_Mem × Int32) :=
Option.bind (f_X8_sumBy mi o (mi o 11)) (fun (q1 : nc_Mem × Int32) =>
nc_loop (fun _ _ _ _ => none) (B_X8_houses_14 o) 200 q1.2 (-9) 0 q1.1)
def f_X8_draw (mi : nc_Mem) (o : Nat) (a1 : Int32) : Option (nc_Mem × Int32) :=
nc_let (nc_up mi o 27 (((mi o 27) * 1664525) + 1013904223)) (fun (mi1 : nc_Mem) =>
nc_nz a1 (
some (mi1, ((((mi1 o 27) &&& 2147483647) / 256) - (((mi1 o 27) &&& 2147483647) / 256) / a1 * a1))))
def B_X8_days_114 (o : Nat) (tr : Nat) (x8 : Int32) (rc10 : Int32 → Int32 → nc_Mem → Option (nc_Mem × Int32)) (rc18 : Int32 → Int32 → nc_Mem → Option (nc_Mem × Int32)) (x15 : Int32) (x16 : Int32) (mi17 : nc_Mem) : Option (nc_Mem × Int32) :=
if (mi17 o 9) ≤ x16 then (
nc_let (x8 + 1) (fun (x20 : Int32) =>
rc10 x15 x20 mi17))
else (
Option.bind (f_X8_isInTime mi17 tr x16) (fun (q21 : nc_Mem × Int32) =>
if q21.2 = 0 then (
nc_let ((x15 + 0)) (fun (x23 : Int32) =>
nc_let (x16 + 1) (fun (x24 : Int32) =>
rc18 x23 x24 q21.1)))
else (
nc_let ((x15 + 1)) (fun (x25 : Int32) =>
nc_let (x16 + 1) (fun (x26 : Int32) =>
rc18 x25 x26 q21.1)))))
def B_X8_days_70 (o : Nat) (tr : Nat) (k12 : nc_Mem → Option (nc_Mem × Int32)) (rc29 : Int32 → nc_Mem → Option (nc_Mem × Int32)) (x27 : Int32) (mi28 : nc_Mem) : Option (nc_Mem × Int32) :=
if (mi28 o 7) ≤ x27 then (
k12 mi28)
else (
nc_at x27 6 (fun (j31 : Nat) =>
Option.bind (f_X8_draw mi28 o 721) (fun (q32 : nc_Mem × Int32) =>
nc_let (nc_up q32.1 (tr + 12 + 1 + j31) 2 q32.2) (fun (mi33 : nc_Mem) =>
nc_let (x27 + 1) (fun (x34 : Int32) =>
rc29 x34 mi33)))))
def B_X8_days_61 (o : Nat) (a1 : Int32) (tr : Nat) (rc10 : Int32 → Int32 → nc_Mem → Option (nc_Mem × Int32)) (x7 : Int32) (x8 : Int32) (mi9 : nc_Mem) : Option (nc_Mem × Int32) :=
if a1 ≤ x8 then (
some (mi9, x7))
else (
nc_let (fun (mi13 : nc_Mem) =>
Option.bind (f_X8_findWays mi13 tr) (fun (q14 : nc_Mem) =>
nc_loop (fun _ _ _ => none) (B_X8_days_114 o tr x8 rc10) 200 x7 0 q14)) (fun (k12 : nc_Mem → Option (nc_Mem × Int32)) =>
nc_loop (fun _ _ => none) (B_X8_days_70 o tr k12) 200 0 mi9))
def f_X8_days (mi : nc_Mem) (o : Nat) (z : Nat) (nz : Nat) (a1 : Int32) (a2 : Int32) : Option (nc_Mem × Int32) :=
if 1 ≤ a1 then (
if a1 ≤ 14 then (
nc_let (if z = 0 then nz + 0 else z) (fun (tr : Nat) =>
nc_let (if z = 0 then nc_up mi (nz + 0) 5 4 else mi) (fun (mi3 : nc_Mem) =>
Option.bind (f_X8_takeFrom mi3 tr o) (fun (q5 : nc_Mem) =>
nc_let (nc_up q5 o 27 a2) (fun (mi6 : nc_Mem) =>
nc_loop (fun _ _ _ => none) (B_X8_days_61 o a1 tr) 200 0 0 mi6)))))
else (
Option.bind (f_X8_refuse mi o (-6)) (fun (q35 : nc_Mem × Int32) =>
some (q35.1, q35.2))))
else (
Option.bind (f_X8_refuse mi o (-4)) (fun (q36 : nc_Mem × Int32) =>
some (q36.1, q36.2)))
def f_X8_row (mi : nc_Mem) (o : Nat) (a1 : Int32) : Option (nc_Mem × Int32) :=
if 0 ≤ a1 then (
nc_let (Option.bind (f_X8_refuse mi o (-6)) (fun (q3 : nc_Mem × Int32) =>
some (q3.1, q3.2))) (fun (k2 : Option (nc_Mem × Int32)) =>
if 9 < a1 then (
k2)
else (
if (mi o 3) = 6 then (
k2)
else (
nc_let (nc_up mi o 3 ((mi o 3) + 1)) (fun (mi6 : nc_Mem) =>
nc_at (mi o 3) 6 (fun (j7 : Nat) =>
nc_let (nc_up mi6 (o + 2) j7 a1) (fun (mi8 : nc_Mem) =>
some (mi8, (mi8 o 3)))))))))
else (
Option.bind (f_X8_refuse mi o (-4)) (fun (q9 : nc_Mem × Int32) =>
some (q9.1, q9.2)))
def B_X8_judged_8 (o : Nat) (q1 : nc_Mem) (k2 : Option (nc_Mem × Int32)) (rc6 : Int32 → Int32 → Option (nc_Mem × Int32)) (x4 : Int32) (x5 : Int32) : Option (nc_Mem × Int32) :=
if (q1 o 9) ≤ x5 then (
k2)
else (
if x5 = (q1 o 3) then (
some (q1, x5))
else (
nc_at x5 6 (fun (j9 : Nat) =>
nc_let ((q1 (o + 2) j9)) (fun (x10 : Int32) =>
if x10 = 9 then (
nc_let (x5 + 1) (fun (x12 : Int32) =>
rc6 x4 x12))
else (
Option.bind (f_X8_isPerson q1 o x10) (fun (q13 : Int32) =>
if q13 = 0 then (
some (q1, x5))
else (
if ((x4 >>> (x10 &&& 31)) &&& 1) = 0 then (
Option.bind (f_X8_roundOf q1 o x10 x5) (fun (q16 : Int32) =>
if q16 = (-9) then (
some (q1, x5))
else (
nc_let ((x4 ||| ((1 : Int32) <<< (x10 &&& 31)))) (fun (x18 : Int32) =>
nc_let (x5 + 1) (fun (x19 : Int32) =>
rc6 x18 x19)))))
else (
some (q1, x5)))))))))
def f_X8_judged (mi : nc_Mem) (o : Nat) : Option (nc_Mem × Int32) :=
Option.bind (f_X8_findFar mi o) (fun (q1 : nc_Mem) =>
nc_let (if (q1 o 3) ≤ (q1 o 9) then (
some (q1, (-9)))
else (
some (q1, (q1 o 9)))) (fun (k2 : Option (nc_Mem × Int32)) =>
nc_loop (fun _ _ => none) (B_X8_judged_8 o q1 k2) 200 0 0))
def f_X8_judge (mi : nc_Mem) (o : Nat) : Option (nc_Mem × Int32) :=
Option.bind (f_X8_judged mi o) (fun (q1 : nc_Mem × Int32) =>
nc_let (nc_up q1.1 o 3 0) (fun (mi2 : nc_Mem) =>
some (mi2, q1.2)))
def f_X8_image (mi : nc_Mem) (o : Nat) (z : Nat) (nz : Nat) : Option (nc_Mem × Int32) :=
nc_let (if z = 0 then nz + 0 else z) (fun (tr : Nat) =>
nc_let (if z = 0 then nc_up mi (nz + 0) 5 4 else mi) (fun (mi1 : nc_Mem) =>
Option.bind (f_X8_takeFrom mi1 tr o) (fun (q3 : nc_Mem) =>
some (q3, (q3 o 9)))))
def f_X8_on (mi : nc_Mem) (o : Nat) (z : Nat) : Option (nc_Mem × Int32) :=
if z = 0 then (
Option.bind (f_X8_refuse mi o (-3)) (fun (q2 : nc_Mem × Int32) =>
some (q2.1, q2.2)))
else (
Option.bind (f_X8_takeFrom mi o z) (fun (q3 : nc_Mem) =>
some (q3, (q3 o 9))))
def B_X8_count_57 (mi : nc_Mem) (o : Nat) (rc7 : Int32 → Int32 → Option (Int32)) (x5 : Int32) (x6 : Int32) : Option (Int32) :=
if (mi o 9) ≤ x6 then (
some x5)
else (
nc_at x6 6 (fun (j9 : Nat) =>
if (mi (o + 19 + 1 + j9) 7) < 10 then (
nc_let ((x5 + 0)) (fun (x11 : Int32) =>
nc_let (x6 + 1) (fun (x12 : Int32) =>
rc7 x11 x12)))
else (
nc_let ((x5 + 1)) (fun (x13 : Int32) =>
nc_let (x6 + 1) (fun (x14 : Int32) =>
rc7 x13 x14)))))
def f_X8_count (mi : nc_Mem) (o : Nat) (a1 : Int32) : Option (Int32) :=
if a1 = 0 then (
some (mi o 5))
else (
if a1 = 1 then (
some (mi o 7))
else (
if a1 = 2 then (
some (mi o 9))
else (
if a1 = 3 then (
nc_loop (fun _ _ => none) (B_X8_count_57 mi o) 200 0 0)
else (
if a1 = 4 then (
some (mi o 3))
else (
if a1 = 5 then (
some (mi o 1))
else (
if (f_X8_in mi a1 11 16) = 0 then (
some (-9))
else (
nc_at (a1 - 10) 8 (fun (j18 : Nat) =>
some (mi (o + 3) j18)))))))))
