def f_X7_refuse (mi : nc_Mem) (o : Nat) (a1 : Int32) : Option (nc_Mem × Int32) :=
nc_let ((-a1)) (fun (x1 : Int32) =>
if x1 < 0 then (
some (mi, a1))
else (
if 7 ≤ x1 then (
some (mi, a1))
else (
nc_at x1 7 (fun (j4 : Nat) =>
nc_let (nc_up mi (o + 81) j4 ((mi (o + 81) j4) + 1)) (fun (mi5 : nc_Mem) =>
some (mi5, a1))))))
def f_X1_add (mi : nc_Mem) (o : Nat) (a1 : Int32) : Option (nc_Mem × Int32) :=
if (mi o 2) < 64 then (
nc_at (mi o 2) 64 (fun (j2 : Nat) =>
nc_let (nc_up mi (o + 1) j2 a1) (fun (mi3 : nc_Mem) =>
nc_let (nc_up mi3 o 2 ((mi3 o 2) + 1)) (fun (mi4 : nc_Mem) =>
some (mi4, 1)))))
else (
some (mi, 0))
def f_X7_letter (mi : nc_Mem) (o : Nat) (a1 : Int32) : Option (nc_Mem × Int32) :=
if 0 ≤ a1 then (
nc_let (fun (mi3 : nc_Mem) =>
Option.bind (f_X7_refuse mi3 o (-6)) (fun (q4 : nc_Mem × Int32) =>
some (q4.1, q4.2))) (fun (k2 : nc_Mem → Option (nc_Mem × Int32)) =>
if 255 < a1 then (
k2 mi)
else (
Option.bind (f_X1_add mi (o + 52) a1) (fun (q6 : nc_Mem × Int32) =>
if q6.2 = 0 then (
k2 q6.1)
else (
some (q6.1, (q6.1 (o + 52) 2)))))))
else (
Option.bind (f_X7_refuse mi o (-4)) (fun (q8 : nc_Mem × Int32) =>
some (q8.1, q8.2)))
def f_X1_signAt (mi : nc_Mem) (o : Nat) (a1 : Int32) : Option (Int32) :=
if a1 < 0 then (
some (-1))
else (
if (mi o 2) ≤ a1 then (
some (-1))
else (
if 64 ≤ a1 then (
some (-1))
else (
nc_at a1 64 (fun (j4 : Nat) =>
some (mi (o + 1) j4)))))
def f_X1_formOf (mi : nc_Mem) (o : Nat) (a1 : Int32) : Nat :=
if a1 = 110 then (
0)
else (
if a1 = 111 then (
4)
else (
if a1 = 112 then (
2)
else (
if a1 = 113 then (
4)
else (
if a1 = 114 then (
4)
else (
if a1 = 115 then (
4)
else (
if a1 = 116 then (
3)
else (
if a1 = 117 then (
4)
else (
if a1 = 118 then (
4)
else (
if a1 = 119 then (
1)
else (
4))))))))))
def B_X1_digitsAt_2 (mi : nc_Mem) (o : Nat) (a1 : Int32) (a2 : Int32) (rc2 : Int32 → Option (Int32)) (x1 : Int32) : Option (Int32) :=
if a2 ≤ x1 then (
some x1)
else (
Option.bind (f_X1_signAt mi o (a1 + x1)) (fun (q4 : Int32) =>
if q4 < 48 then (
some x1)
else (
Option.bind (f_X1_signAt mi o (a1 + x1)) (fun (q6 : Int32) =>
if 57 < q6 then (
some x1)
else (
nc_let (x1 + 1) (fun (x8 : Int32) =>
rc2 x8))))))
def f_X1_digitsAt (mi : nc_Mem) (o : Nat) (a1 : Int32) (a2 : Int32) : Option (Int32) :=
nc_loop (fun _ => none) (B_X1_digitsAt_2 mi o a1 a2) 200 0
def B_X1_valueOf_5 (mi : nc_Mem) (o : Nat) (a1 : Int32) (a2 : Int32) (rc3 : Int32 → Int32 → Option (Int32)) (x1 : Int32) (x2 : Int32) : Option (Int32) :=
if a2 ≤ x2 then (
some x1)
else (
Option.bind (f_X1_signAt mi o (a1 + x2)) (fun (q5 : Int32) =>
nc_let ((((10 * x1) + q5) - 48)) (fun (x6 : Int32) =>
nc_let (x2 + 1) (fun (x7 : Int32) =>
rc3 x6 x7))))
def f_X1_valueOf (mi : nc_Mem) (o : Nat) (a1 : Int32) (a2 : Int32) : Option (Int32) :=
nc_loop (fun _ _ => none) (B_X1_valueOf_5 mi o a1 a2) 200 0 0
def B_X1_read_39 (o : Nat) (mi2 : nc_Mem) (rc10 : Int32 → Int32 → Int32 → nc_Mem → Option (nc_Mem × Int32)) (x6 : Int32) (x7 : Int32) (x8 : Int32) (mi9 : nc_Mem) : Option (nc_Mem × Int32) :=
if (Int32.ofNat (nc_sn (f_X1_formOf mi2 o (mi2 o 3)))) ≤ x8 then (
some (mi9, x6))
else (
nc_at x8 (nc_sn (f_X1_formOf mi2 o (mi2 o 3))) (fun (j12 : Nat) =>
nc_let ((nc_sc (f_X1_formOf mi2 o (mi2 o 3)) j12)) (fun (x13 : Int32) =>
nc_let (fun (x15 : Int32) (x16 : Int32) (mi17 : nc_Mem) =>
if x16 = 0 then (
some (mi17, ((-1) - x6)))
else (
nc_let ((x6 + x16)) (fun (x19 : Int32) =>
nc_let (x8 + 1) (fun (x20 : Int32) =>
rc10 x19 x15 x20 mi17)))) (fun (k14 : Int32 → Int32 → nc_Mem → Option (nc_Mem × Int32)) =>
nc_let (Option.bind (f_X1_signAt mi9 o x6) (fun (q22 : Int32) =>
if q22 = x13 then (
k14 x7 1 mi9)
else (
k14 x7 0 mi9))) (fun (k21 : Option (nc_Mem × Int32)) =>
if x13 = 44 then (
k21)
else (
if x13 = 59 then (
k21)
else (
if 7 ≤ x7 then (
k14 x7 0 mi9)
else (
Option.bind (f_X1_digitsAt mi9 o x6 (x13 - 48)) (fun (q27 : Int32) =>
Option.bind (f_X1_valueOf mi9 o x6 q27) (fun (q28 : Int32) =>
nc_at x7 7 (fun (j29 : Nat) =>
nc_let (nc_up mi9 (o + 2) j29 q28) (fun (mi30 : nc_Mem) =>
nc_let (x7 + 1) (fun (x31 : Int32) =>
k14 x31 q27 mi30)))))))))))))
def f_X1_read (mi : nc_Mem) (o : Nat) (a1 : Int32) : Option (nc_Mem × Int32) :=
Option.bind (f_X1_signAt mi o a1) (fun (q1 : Int32) =>
nc_let (nc_up mi o 3 q1) (fun (mi2 : nc_Mem) =>
nc_s5 (f_X1_formOf mi2 o (mi2 o 3)) (
if (if Int32.ofNat (nc_sn (f_X1_formOf mi2 o (mi2 o 3))) = 0 then (1 : Int32) else 0) = 0 then (
nc_let ((a1 + 1)) (fun (x5 : Int32) =>
nc_loop (fun _ _ _ _ => none) (B_X1_read_39 o mi2) 200 x5 0 0 mi2))
else (
some (mi2, ((-1) - a1))))))
def B_X1_firstBadSign_4 (o : Nat) (rc4 : Int32 → Int32 → nc_Mem → Option (nc_Mem × Int32)) (x1 : Int32) (x2 : Int32) (mi3 : nc_Mem) : Option (nc_Mem × Int32) :=
if 64 ≤ x2 then (
some (mi3, x1))
else (
Option.bind (f_X1_read mi3 o x1) (fun (q6 : nc_Mem × Int32) =>
if 0 ≤ q6.2 then (
if q6.2 < (q6.1 o 2) then (
nc_let (x2 + 1) (fun (x9 : Int32) =>
rc4 q6.2 x9 q6.1))
else (
some (q6.1, (-1))))
else (
some (q6.1, ((-1) - q6.2)))))
def f_X1_firstBadSign (mi : nc_Mem) (o : Nat) : Option (nc_Mem × Int32) :=
nc_loop (fun _ _ _ => none) (B_X1_firstBadSign_4 o) 200 0 0 mi
def f_X3_becomeLike (mi : nc_Mem) (o : Nat) (r1 : Nat) : nc_Mem :=
nc_let (nc_up mi o 0 (mi r1 0)) (fun (mi1 : nc_Mem) =>
nc_let (nc_up mi1 o 1 (mi1 r1 1)) (fun (mi2 : nc_Mem) =>
nc_let (nc_up mi2 o 2 (mi2 r1 2)) (fun (mi3 : nc_Mem) =>
nc_let (nc_up mi3 o 3 (mi3 r1 3)) (fun (mi4 : nc_Mem) =>
nc_let (nc_up mi4 o 4 (mi4 r1 4)) (fun (mi5 : nc_Mem) =>
nc_let (nc_up mi5 o 5 (mi5 r1 5)) (fun (mi6 : nc_Mem) =>
nc_let (nc_up mi6 o 6 (mi6 r1 6)) (fun (mi7 : nc_Mem) =>
mi7)))))))
def f_X4_becomeLike (mi : nc_Mem) (o : Nat) (r1 : Nat) : nc_Mem :=
nc_let (nc_up mi o 0 (mi r1 0)) (fun (mi1 : nc_Mem) =>
nc_let (nc_up mi1 o 1 (mi1 r1 1)) (fun (mi2 : nc_Mem) =>
nc_let (nc_up mi2 o 2 (mi2 r1 2)) (fun (mi3 : nc_Mem) =>
nc_let (nc_up mi3 o 3 (mi3 r1 3)) (fun (mi4 : nc_Mem) =>
nc_let (nc_up mi4 o 4 (mi4 r1 4)) (fun (mi5 : nc_Mem) =>
nc_let (nc_up mi5 o 5 (mi5 r1 5)) (fun (mi6 : nc_Mem) =>
nc_let (nc_up mi6 o 6 (mi6 r1 6)) (fun (mi7 : nc_Mem) =>
nc_let (nc_up mi7 o 7 (mi7 r1 7)) (fun (mi8 : nc_Mem) =>
nc_let (nc_up mi8 o 8 (mi8 r1 8)) (fun (mi9 : nc_Mem) =>
nc_let (nc_up mi9 o 9 (mi9 r1 9)) (fun (mi10 : nc_Mem) =>
mi10))))))))))
def B_X5_becomeLike_31 (o : Nat) (r1 : Nat) (k5 : nc_Mem → Option (nc_Mem)) (rc15 : Int32 → nc_Mem → Option (nc_Mem)) (x13 : Int32) (mi14 : nc_Mem) : Option (nc_Mem) :=
if 6 ≤ x13 then (
k5 mi14)
else (
nc_at x13 6 (fun (j17 : Nat) =>
nc_let (f_X4_becomeLike mi14 (o + 11 + j17) (r1 + 11 + j17)) (fun (q18 : nc_Mem) =>
nc_let (x13 + 1) (fun (x19 : Int32) =>
rc15 x19 q18))))
def B_X5_becomeLike_2 (o : Nat) (r1 : Nat) (rc3 : Int32 → nc_Mem → Option (nc_Mem)) (x1 : Int32) (mi2 : nc_Mem) : Option (nc_Mem) :=
if 6 ≤ x1 then (
nc_let (fun (mi6 : nc_Mem) =>
nc_let (nc_cp mi6 (r1 + 3) (o + 3) 49) (fun (mi7 : nc_Mem) =>
nc_let (nc_cp mi7 (r1 + 4) (o + 4) 49) (fun (mi8 : nc_Mem) =>
nc_let (nc_up mi8 o 4 (mi8 r1 4)) (fun (mi9 : nc_Mem) =>
nc_let (nc_up mi9 o 5 (mi9 r1 5)) (fun (mi10 : nc_Mem) =>
nc_let (nc_up mi10 o 6 (mi10 r1 6)) (fun (mi11 : nc_Mem) =>
nc_let (nc_up mi11 o 7 (mi11 r1 7)) (fun (mi12 : nc_Mem) =>
some mi12))))))) (fun (k5 : nc_Mem → Option (nc_Mem)) =>
nc_loop (fun _ _ => none) (B_X5_becomeLike_31 o r1 k5) 200 0 mi2))
else (
nc_at x1 6 (fun (j20 : Nat) =>
nc_let (f_X3_becomeLike mi2 (o + 5 + j20) (r1 + 5 + j20)) (fun (q21 : nc_Mem) =>
nc_let (x1 + 1) (fun (x22 : Int32) =>
rc3 x22 q21))))
def f_X5_becomeLike (mi : nc_Mem) (o : Nat) (r1 : Nat) : Option (nc_Mem) :=
nc_loop (fun _ _ => none) (B_X5_becomeLike_2 o r1) 200 0 mi
def B_X5_highestPlace_85 (mi : nc_Mem) (o : Nat) (rc11 : Int32 → Int32 → Option (Int32)) (x9 : Int32) (x10 : Int32) : Option (Int32) :=
if (mi o 6) ≤ x10 then (
some x9)
else (
nc_at x10 6 (fun (j13 : Nat) =>
nc_let ((if x9 < (if (mi (o + 11 + j13) 2) < (mi (o + 11 + j13) 3) then (mi (o + 11 + j13) 3) else (mi (o + 11 + j13) 2)) then (if (mi (o + 11 + j13) 2) < (mi (o + 11 + j13) 3) then (mi (o + 11 + j13) 3) else (mi (o + 11 + j13) 2)) else x9)) (fun (x14 : Int32) =>
if 10 ≤ (mi (o + 11 + j13) 7) then (
nc_let (x10 + 1) (fun (x16 : Int32) =>
rc11 x14 x16))
else (
nc_let ((if x14 < (mi (o + 11 + j13) 7) then (mi (o + 11 + j13) 7) else x14)) (fun (x17 : Int32) =>
nc_let (x10 + 1) (fun (x18 : Int32) =>
rc11 x17 x18))))))
def B_X5_highestPlace_39 (mi : nc_Mem) (o : Nat) (rc7 : Int32 → Int32 → Option (Int32)) (x5 : Int32) (x6 : Int32) : Option (Int32) :=
if (mi o 5) ≤ x6 then (
nc_loop (fun _ _ => none) (B_X5_highestPlace_85 mi o) 200 x5 0)
else (
nc_at x6 6 (fun (j19 : Nat) =>
nc_let ((if x5 < (if (mi (o + 5 + j19) 5) < (if (mi (o + 5 + j19) 0) < (mi (o + 5 + j19) 1) then (mi (o + 5 + j19) 1) else (mi (o + 5 + j19) 0)) then (if (mi (o + 5 + j19) 0) < (mi (o + 5 + j19) 1) then (mi (o + 5 + j19) 1) else (mi (o + 5 + j19) 0)) else (mi (o + 5 + j19) 5)) then (if (mi (o + 5 + j19) 5) < (if (mi (o + 5 + j19) 0) < (mi (o + 5 + j19) 1) then (mi (o + 5 + j19) 1) else (mi (o + 5 + j19) 0)) then (if (mi (o + 5 + j19) 0) < (mi (o + 5 + j19) 1) then (mi (o + 5 + j19) 1) else (mi (o + 5 + j19) 0)) else (mi (o + 5 + j19) 5)) else x5)) (fun (x20 : Int32) =>
nc_let (x6 + 1) (fun (x21 : Int32) =>
rc7 x20 x21))))
def B_X5_highestPlace_4 (mi : nc_Mem) (o : Nat) (rc3 : Int32 → Int32 → Option (Int32)) (x1 : Int32) (x2 : Int32) : Option (Int32) :=
if 49 ≤ x2 then (
nc_loop (fun _ _ => none) (B_X5_highestPlace_39 mi o) 200 x1 0)
else (
nc_at x2 49 (fun (j22 : Nat) =>
if (mi (o + 3) j22) ≤ 0 then (
nc_let (x2 + 1) (fun (x24 : Int32) =>
rc3 x1 x24))
else (
nc_let ((if x1 < (x2 / 7) then (x2 / 7) else x1)) (fun (x25 : Int32) =>
nc_let (x2 + 1) (fun (x26 : Int32) =>
rc3 x25 x26)))))
def f_X5_highestPlace (mi : nc_Mem) (o : Nat) : Option (Int32) :=
nc_loop (fun _ _ => none) (B_X5_highestPlace_4 mi o) 200 (-1) 0
def f_X5_hearPlaces (mi : nc_Mem) (o : Nat) (a1 : Int32) : Option (nc_Mem × Int32) :=
if a1 < 2 then (
some (mi, 0))
else (
if 7 < a1 then (
some (mi, 0))
else (
Option.bind (f_X5_highestPlace mi o) (fun (q3 : Int32) =>
if q3 < a1 then (
nc_let (nc_up mi o 4 a1) (fun (mi5 : nc_Mem) =>
some (mi5, 1)))
else (
some (mi, 0)))))
def f_X5_isPlace (mi : nc_Mem) (o : Nat) (a1 : Int32) : Int32 :=
if a1 < 0 then (
0)
else (
if (mi o 4) ≤ a1 then (
0)
else (
1))
def f_X5_hearWay (mi : nc_Mem) (o : Nat) (a1 : Int32) (a2 : Int32) (a3 : Int32) : Option (nc_Mem × Int32) :=
if (f_X5_isPlace mi o a1) = 0 then (
some (mi, 0))
else (
if (f_X5_isPlace mi o a2) = 0 then (
some (mi, 0))
else (
if a1 = a2 then (
some (mi, 0))
else (
if a3 < 1 then (
some (mi, 0))
else (
if a3 ≤ 60 then (
nc_at ((a1 * 7) + a2) 49 (fun (j6 : Nat) =>
nc_let (nc_up mi (o + 3) j6 a3) (fun (mi7 : nc_Mem) =>
nc_at ((a2 * 7) + a1) 49 (fun (j8 : Nat) =>
nc_let (nc_up mi7 (o + 3) j8 a3) (fun (mi9 : nc_Mem) =>
some (mi9, 1))))))
else (
some (mi, 0))))))
def f_X5_hearPerson (mi : nc_Mem) (o : Nat) (r1 : Nat) : Option (nc_Mem × Int32) :=
if 6 ≤ (mi o 5) then (
some (mi, 0))
else (
if (f_X5_isPlace mi o (mi r1 0)) = 0 then (
some (mi, 0))
else (
if (f_X5_isPlace mi o (mi r1 1)) = 0 then (
some (mi, 0))
else (
if (mi r1 2) ≤ 720 then (
nc_at (mi o 5) 6 (fun (j5 : Nat) =>
nc_let (nc_up mi (o + 5 + j5) 0 (mi r1 0)) (fun (mi6 : nc_Mem) =>
nc_let (nc_up mi6 (o + 5 + j5) 1 (mi6 r1 1)) (fun (mi7 : nc_Mem) =>
nc_let (nc_up mi7 (o + 5 + j5) 2 (mi7 r1 2)) (fun (mi8 : nc_Mem) =>
nc_let (nc_up mi8 (o + 5 + j5) 3 (mi8 r1 3)) (fun (mi9 : nc_Mem) =>
nc_let (nc_up mi9 (o + 5 + j5) 4 (mi9 r1 4)) (fun (mi10 : nc_Mem) =>
nc_let (nc_up mi10 (o + 5 + j5) 5 (mi10 (o + 5 + j5) 0)) (fun (mi11 : nc_Mem) =>
nc_let (nc_up mi11 (o + 5 + j5) 6 (mi11 (o + 5 + j5) 2)) (fun (mi12 : nc_Mem) =>
nc_let (nc_up mi12 o 5 ((mi12 o 5) + 1)) (fun (mi13 : nc_Mem) =>
some (mi13, 1)))))))))))
else (
some (mi, 0)))))
def f_X5_isPerson (mi : nc_Mem) (o : Nat) (a1 : Int32) : Int32 :=
if a1 < 0 then (
0)
else (
if (mi o 5) ≤ a1 then (
0)
else (
1))
def f_X5_hearThing (mi : nc_Mem) (o : Nat) (r1 : Nat) : Option (nc_Mem × Int32) :=
if 6 ≤ (mi o 6) then (
some (mi, 0))
else (
if (f_X5_isPerson mi o (mi r1 0)) = 0 then (
some (mi, 0))
else (
if (f_X5_isPerson mi o (mi r1 1)) = 0 then (
some (mi, 0))
else (
if (f_X5_isPlace mi o (mi r1 2)) = 0 then (
some (mi, 0))
else (
if (f_X5_isPlace mi o (mi r1 3)) = 0 then (
some (mi, 0))
else (
if 1 ≤ (mi r1 4) then (
nc_at (mi o 6) 6 (fun (j7 : Nat) =>
nc_let (nc_up mi (o + 11 + j7) 0 (mi r1 0)) (fun (mi8 : nc_Mem) =>
nc_let (nc_up mi8 (o + 11 + j7) 1 (mi8 r1 1)) (fun (mi9 : nc_Mem) =>
nc_let (nc_up mi9 (o + 11 + j7) 2 (mi9 r1 2)) (fun (mi10 : nc_Mem) =>
nc_let (nc_up mi10 (o + 11 + j7) 3 (mi10 r1 3)) (fun (mi11 : nc_Mem) =>
nc_let (nc_up mi11 (o + 11 + j7) 4 (mi11 r1 4)) (fun (mi12 : nc_Mem) =>
nc_let (nc_up mi12 (o + 11 + j7) 5 (mi12 r1 5)) (fun (mi13 : nc_Mem) =>
nc_let (nc_up mi13 (o + 11 + j7) 6 (mi13 r1 6)) (fun (mi14 : nc_Mem) =>
nc_let (nc_up mi14 (o + 11 + j7) 7 (mi14 (o + 11 + j7) 2)) (fun (mi15 : nc_Mem) =>
nc_let (nc_up mi15 (o + 11 + j7) 8 0) (fun (mi16 : nc_Mem) =>
nc_let (nc_up mi16 (o + 11 + j7) 9 (-9)) (fun (mi17 : nc_Mem) =>
nc_let (nc_up mi17 o 6 ((mi17 o 6) + 1)) (fun (mi18 : nc_Mem) =>
some (mi18, 1))))))))))))))
else (
some (mi, 0)))))))
def f_X5_hear (mi : nc_Mem) (o : Nat) (a1 : Int32) (r2 : Nat) : Option (nc_Mem × Int32) :=
if a1 = 110 then (
Option.bind (f_X5_hearPlaces mi o (mi r2 0)) (fun (q2 : nc_Mem × Int32) =>
nc_zb q2.2 (some (q2.1, q2.2))))
else (
if a1 = 111 then (
some (mi, 0))
else (
if a1 = 112 then (
Option.bind (f_X5_hearPerson mi o r2) (fun (q5 : nc_Mem × Int32) =>
nc_zb q5.2 (some (q5.1, q5.2))))
else (
if a1 = 113 then (
some (mi, 0))
else (
if a1 = 114 then (
some (mi, 0))
else (
if a1 = 115 then (
some (mi, 0))
else (
if a1 = 116 then (
Option.bind (f_X5_hearThing mi o r2) (fun (q10 : nc_Mem × Int32) =>
nc_zb q10.2 (some (q10.1, q10.2))))
else (
if a1 = 117 then (
some (mi, 0))
else (
if a1 = 118 then (
some (mi, 0))
else (
if a1 = 119 then (
Option.bind (f_X5_hearWay mi o (mi r2 0) (mi r2 1) (mi r2 2)) (fun (q14 : nc_Mem × Int32) =>
nc_zb q14.2 (some (q14.1, q14.2))))
else (
some (mi, 0)))))))))))
def B_X5_measure_70 (o : Nat) (x5 : Int32) (rc7 : Int32 → nc_Mem → Option (nc_Mem)) (rc11 : Int32 → nc_Mem → Option (nc_Mem)) (x9 : Int32) (mi10 : nc_Mem) : Option (nc_Mem) :=
if 49 ≤ x9 then (
nc_let (x5 + 1) (fun (x13 : Int32) =>
rc7 x13 mi10))
else (
nc_at (((x9 / 7) * 7) + x5) 49 (fun (j14 : Nat) =>
nc_let ((mi10 (o + 4) j14)) (fun (x15 : Int32) =>
nc_at ((x5 * 7) + (x9 - x9 / 7 * 7)) 49 (fun (j16 : Nat) =>
nc_let ((mi10 (o + 4) j16)) (fun (x17 : Int32) =>
nc_at x9 49 (fun (j18 : Nat) =>
nc_let (nc_up mi10 (o + 4) j18 (if (x15 + x17) < (mi10 (o + 4) j18) then (x15 + x17) else (mi10 (o + 4) j18))) (fun (mi19 : nc_Mem) =>
nc_let (x9 + 1) (fun (x20 : Int32) =>
rc11 x20 mi19))))))))
def B_X5_measure_62 (o : Nat) (rc7 : Int32 → nc_Mem → Option (nc_Mem)) (x5 : Int32) (mi6 : nc_Mem) : Option (nc_Mem) :=
if 7 ≤ x5 then (
some mi6)
else (
nc_loop (fun _ _ => none) (B_X5_measure_70 o x5 rc7) 200 0 mi6)
def B_X5_measure_2 (o : Nat) (rc3 : Int32 → nc_Mem → Option (nc_Mem)) (x1 : Int32) (mi2 : nc_Mem) : Option (nc_Mem) :=
if 49 ≤ x1 then (
nc_loop (fun _ _ => none) (B_X5_measure_62 o) 200 0 mi2)
else (
nc_let (fun (v22 : Int32) =>
nc_at x1 49 (fun (j23 : Nat) =>
nc_let (fun (v25 : Int32) =>
nc_let (nc_up mi2 (o + 4) j23 v25) (fun (mi26 : nc_Mem) =>
nc_let (x1 + 1) (fun (x27 : Int32) =>
rc3 x27 mi26))) (fun (k24 : Int32 → Option (nc_Mem)) =>
if (mi2 (o + 3) j23) ≤ 0 then (
k24 v22)
else (
k24 (mi2 (o + 3) j23))))) (fun (k21 : Int32 → Option (nc_Mem)) =>
if (x1 / 7) = (x1 - x1 / 7 * 7) then (
k21 0)
else (
k21 1000000)))
def f_X5_measure (mi : nc_Mem) (o : Nat) : Option (nc_Mem) :=
nc_loop (fun _ _ => none) (B_X5_measure_2 o) 200 0 mi
def B_X7_tellStatements_15 (o : Nat) (k2 : Int32 → nc_Mem → Option (nc_Mem × Int32)) (rc10 : Int32 → Int32 → nc_Mem → Option (nc_Mem × Int32)) (x7 : Int32) (x8 : Int32) (mi9 : nc_Mem) : Option (nc_Mem × Int32) :=
if (mi9 (o + 52) 2) ≤ x8 then (
k2 x7 mi9)
else (
if 64 ≤ x7 then (
k2 x7 mi9)
else (
Option.bind (f_X1_read mi9 (o + 52) x8) (fun (q13 : nc_Mem × Int32) =>
if q13.2 < 0 then (
some (q13.1, ((-2000) - x8)))
else (
Option.bind (f_X5_hear q13.1 (o + 18) (q13.1 (o + 52) 3) (o + 52 + 2)) (fun (q15 : nc_Mem × Int32) =>
if q15.2 = 0 then (
some (q15.1, ((-2000) - x8)))
else (
nc_let (x7 + 1) (fun (x17 : Int32) =>
rc10 x17 q13.2 q15.1)))))))
def f_X7_tellStatements (mi : nc_Mem) (o : Nat) : Option (nc_Mem × Int32) :=
Option.bind (f_X5_becomeLike mi (o + 18) (o + 1)) (fun (q1 : nc_Mem) =>
nc_let (fun (x3 : Int32) (mi4 : nc_Mem) =>
Option.bind (f_X5_measure mi4 (o + 18)) (fun (q5 : nc_Mem) =>
Option.bind (f_X5_becomeLike q5 (o + 1) (o + 18)) (fun (q6 : nc_Mem) =>
some (q6, x3)))) (fun (k2 : Int32 → nc_Mem → Option (nc_Mem × Int32)) =>
nc_loop (fun _ _ _ => none) (B_X7_tellStatements_15 o k2) 200 0 0 q1))
def f_X7_town (mi : nc_Mem) (o : Nat) : Option (nc_Mem × Int32) :=
Option.bind (f_X1_firstBadSign mi (o + 52)) (fun (q1 : nc_Mem × Int32) =>
nc_let (fun (v3 : Int32) (mi4 : nc_Mem) =>
nc_let (nc_up mi4 (o + 52) 2 0) (fun (mi5 : nc_Mem) =>
some (mi5, v3))) (fun (k2 : Int32 → nc_Mem → Option (nc_Mem × Int32)) =>
if 0 ≤ q1.2 then (
k2 ((-1000) - q1.2) q1.1)
else (
Option.bind (f_X7_tellStatements q1.1 o) (fun (q7 : nc_Mem × Int32) =>
k2 q7.2 q7.1))))
def f_X5_leastBetween (mi : nc_Mem) (o : Nat) (a1 : Int32) (a2 : Int32) : Option (Int32) :=
if (f_X5_isPlace mi o a1) = 0 then (
some 1000000)
else (
if (f_X5_isPlace mi o a2) = 0 then (
some 1000000)
else (
nc_at ((a1 * 7) + a2) 49 (fun (j3 : Nat) =>
some (mi (o + 4) j3))))
def f_X7_minutes (mi : nc_Mem) (o : Nat) (a1 : Int32) (a2 : Int32) : Option (nc_Mem × Int32) :=
nc_let (Option.bind (f_X7_refuse mi o (-1)) (fun (q2 : nc_Mem × Int32) =>
some (q2.1, q2.2))) (fun (k1 : Option (nc_Mem × Int32)) =>
if (f_X5_isPlace mi (o + 1) a1) = 0 then (
k1)
else (
if (f_X5_isPlace mi (o + 1) a2) = 0 then (
k1)
else (
Option.bind (f_X5_leastBetween mi (o + 1) a1 a2) (fun (q5 : Int32) =>
if q5 < 1000000 then (
some (mi, q5))
else (
some (mi, (-9)))))))
def B_X5_carriedBits_4 (mi : nc_Mem) (o : Nat) (a1 : Int32) (rc3 : Int32 → Int32 → Option (Int32)) (x1 : Int32) (x2 : Int32) : Option (Int32) :=
if (mi o 6) ≤ x2 then (
some x1)
else (
nc_at x2 6 (fun (j5 : Nat) =>
if (mi (o + 11 + j5) 7) = (10 + a1) then (
nc_let ((x1 ||| ((1 : Int32) <<< (x2 &&& 31)))) (fun (x8 : Int32) =>
nc_let (x2 + 1) (fun (x9 : Int32) =>
rc3 x8 x9)))
else (
nc_let (x2 + 1) (fun (x7 : Int32) =>
rc3 x1 x7))))
def f_X5_carriedBits (mi : nc_Mem) (o : Nat) (a1 : Int32) : Option (Int32) :=
nc_loop (fun _ _ => none) (B_X5_carriedBits_4 mi o a1) 200 0 0
def f_X3_tellOf (mi : nc_Mem) (o : Nat) (a1 : Int32) : Int32 :=
if a1 = 0 then (
(mi o 0))
else (
if a1 = 1 then (
(mi o 1))
else (
if a1 = 2 then (
(mi o 2))
else (
if a1 = 3 then (
(mi o 3))
else (
if a1 = 4 then (
(mi o 4))
else (
if a1 = 5 then (
(mi o 5))
else (
(mi o 6)))))))
def f_X7_person (mi : nc_Mem) (o : Nat) (a1 : Int32) (a2 : Int32) : Option (nc_Mem × Int32) :=
if (f_X5_isPerson mi (o + 1) a1) = 0 then (
Option.bind (f_X7_refuse mi o (-1)) (fun (q9 : nc_Mem × Int32) =>
some (q9.1, q9.2)))
else (
nc_let (Option.bind (f_X7_refuse mi o (-2)) (fun (q3 : nc_Mem × Int32) =>
some (q3.1, q3.2))) (fun (k2 : Option (nc_Mem × Int32)) =>
if a2 < 0 then (
k2)
else (
if a2 ≤ 7 then (
if a2 = 7 then (
Option.bind (f_X5_carriedBits mi (o + 1) a1) (fun (q8 : Int32) =>
some (mi, q8)))
else (
nc_at a1 6 (fun (j7 : Nat) =>
some (mi, (f_X3_tellOf mi (o + 1 + 5 + j7) a2)))))
else (
k2))))
def f_X5_isThing (mi : nc_Mem) (o : Nat) (a1 : Int32) : Int32 :=
if a1 < 0 then (
0)
else (
if (mi o 6) ≤ a1 then (
0)
else (
1))
def f_X4_tellOf (mi : nc_Mem) (o : Nat) (a1 : Int32) : Int32 :=
if a1 = 0 then (
(mi o 0))
else (
if a1 = 1 then (
(mi o 1))
else (
if a1 = 2 then (
(mi o 2))
else (
if a1 = 3 then (
(mi o 3))
else (
if a1 = 4 then (
(mi o 4))
else (
if a1 = 5 then (
(mi o 5))
else (
if a1 = 6 then (
(mi o 6))
else (
if a1 = 7 then (
(mi o 7))
else (
if a1 = 8 then (
(mi o 8))
else (
(mi o 9))))))))))
def f_X7_thing (mi : nc_Mem) (o : Nat) (a1 : Int32) (a2 : Int32) : Option (nc_Mem × Int32) :=
if (f_X5_isThing mi (o + 1) a1) = 0 then (
Option.bind (f_X7_refuse mi o (-1)) (fun (q7 : nc_Mem × Int32) =>
some (q7.1, q7.2)))
else (
nc_let (Option.bind (f_X7_refuse mi o (-2)) (fun (q3 : nc_Mem × Int32) =>
some (q3.1, q3.2))) (fun (k2 : Option (nc_Mem × Int32)) =>
if a2 < 0 then (
k2)
else (
if a2 ≤ 9 then (
nc_at a1 6 (fun (j6 : Nat) =>
some (mi, (f_X4_tellOf mi (o + 1 + 11 + j6) a2))))
else (
k2))))
def f_X7_law (mi : nc_Mem) (o : Nat) (a1 : Int32) : Option (nc_Mem × Int32) :=
nc_let (Option.bind (f_X7_refuse mi o (-2)) (fun (q2 : nc_Mem × Int32) =>
some (q2.1, q2.2))) (fun (k1 : Option (nc_Mem × Int32)) =>
if a1 < 0 then (
k1)
else (
if a1 ≤ 4 then (
nc_let ((mi (o + 1) 7)) (fun (x5 : Int32) =>
nc_let (nc_up mi (o + 1) 7 a1) (fun (mi6 : nc_Mem) =>
some (mi6, x5))))
else (
k1)))
def f_X5_fits (mi : nc_Mem) (o : Nat) (a1 : Int32) (a2 : Int32) : Option (Int32) :=
nc_at a2 6 (fun (j1 : Nat) =>
nc_at a1 6 (fun (j2 : Nat) =>
if (mi (o + 5 + j2) 4) < (mi (o + 11 + j1) 4) then (
some 0)
else (
some 1)))
def f_X5_lawLets (mi : nc_Mem) (o : Nat) (a1 : Int32) (a2 : Int32) (a3 : Int32) (a4 : Int32) (a5 : Int32) : Option (Int32) :=
if a1 = 3 then (
some 1)
else (
nc_let (nc_at a3 6 (fun (j3 : Nat) =>
nc_let (if a1 = 2 then (
if a5 < 0 then (
some 0)
else (
if a4 < a5 then (
some 0)
else (
if 60 ≤ (a4 - a5) then (
some 0)
else (
some 1))))
else (
some 0)) (fun (k4 : Option (Int32)) =>
if a2 = (mi (o + 11 + j3) 0) then (
k4)
else (
if a2 = (mi (o + 11 + j3) 1) then (
k4)
else (
nc_let (nc_at a2 6 (fun (j12 : Nat) =>
nc_let ((mi (o + 5 + j12) 3)) (fun (x13 : Int32) =>
if x13 = 0 then (
some 1)
else (
nc_at (mi (o + 11 + j3) 0) 6 (fun (j15 : Nat) =>
if x13 = (mi (o + 5 + j15) 3) then (
some 0)
else (
nc_at (mi (o + 11 + j3) 1) 6 (fun (j17 : Nat) =>
if x13 = (mi (o + 5 + j17) 3) then (
some 0)
else (
some 1)))))))) (fun (k11 : Option (Int32)) =>
if a1 = 1 then (
k11)
else (
if a1 = 4 then (
k11)
else (
some 1)))))))) (fun (k2 : Option (Int32)) =>
if a1 = 4 then (
if a4 < 720 then (
k2)
else (
some 1))
else (
k2)))
def f_X5_letsCarry (mi : nc_Mem) (o : Nat) (a1 : Int32) (a2 : Int32) (a3 : Int32) : Option (Int32) :=
Option.bind (f_X5_fits mi o a1 a2) (fun (q1 : Int32) =>
if q1 = 0 then (
some 0)
else (
nc_at a2 6 (fun (j3 : Nat) =>
Option.bind (f_X5_lawLets mi o (mi o 7) a1 a2 a3 (mi (o + 11 + j3) 9)) (fun (q4 : Int32) =>
if q4 = 0 then (
some 0)
else (
some 1)))))
def f_X7_may (mi : nc_Mem) (o : Nat) (a1 : Int32) (a2 : Int32) (a3 : Int32) : Option (nc_Mem × Int32) :=
nc_let (Option.bind (f_X7_refuse mi o (-1)) (fun (q2 : nc_Mem × Int32) =>
some (q2.1, q2.2))) (fun (k1 : Option (nc_Mem × Int32)) =>
if (f_X5_isPerson mi (o + 1) a1) = 0 then (
k1)
else (
if (f_X5_isThing mi (o + 1) a2) = 0 then (
k1)
else (
if 0 ≤ a3 then (
if a3 ≤ 9999 then (
Option.bind (f_X5_letsCarry mi (o + 1) a1 a2 a3) (fun (q7 : Int32) =>
if q7 = 0 then (
some (mi, 0))
else (
some (mi, 1))))
else (
Option.bind (f_X7_refuse mi o (-6)) (fun (q9 : nc_Mem × Int32) =>
some (q9.1, q9.2))))
else (
Option.bind (f_X7_refuse mi o (-4)) (fun (q10 : nc_Mem × Int32) =>
some (q10.1, q10.2))))))
def B_X5_hasSpareRoom_13 (mi : nc_Mem) (o : Nat) (a1 : Int32) (k3 : Int32 → Option (Int32)) (rc9 : Int32 → Int32 → Option (Int32)) (x7 : Int32) (x8 : Int32) : Option (Int32) :=
if (mi o 6) ≤ x8 then (
k3 x7)
else (
nc_at x8 6 (fun (j11 : Nat) =>
if (mi (o + 11 + j11) 7) = (10 + a1) then (
nc_let ((x7 + (mi (o + 11 + j11) 4))) (fun (x14 : Int32) =>
nc_let (x8 + 1) (fun (x15 : Int32) =>
rc9 x14 x15)))
else (
nc_let (x8 + 1) (fun (x13 : Int32) =>
rc9 x7 x13))))
def f_X5_hasSpareRoom (mi : nc_Mem) (o : Nat) (a1 : Int32) (a2 : Int32) : Option (Int32) :=
nc_at a2 6 (fun (j1 : Nat) =>
nc_let ((mi (o + 11 + j1) 4)) (fun (x2 : Int32) =>
nc_let (fun (x4 : Int32) =>
nc_at a1 6 (fun (j5 : Nat) =>
if (mi (o + 5 + j5) 4) < x4 then (
some 0)
else (
some 1))) (fun (k3 : Int32 → Option (Int32)) =>
nc_loop (fun _ _ => none) (B_X5_hasSpareRoom_13 mi o a1 k3) 200 x2 0)))
def f_X5_load (mi : nc_Mem) (o : Nat) (a1 : Int32) (a2 : Int32) : Option (nc_Mem) :=
nc_at a2 6 (fun (j1 : Nat) =>
nc_let (nc_up mi (o + 11 + j1) 7 (10 + a1)) (fun (mi2 : nc_Mem) =>
nc_let (nc_up mi2 (o + 11 + j1) 8 0) (fun (mi3 : nc_Mem) =>
some mi3)))
def f_X5_takeUp (mi : nc_Mem) (o : Nat) (a1 : Int32) (a2 : Int32) : Option (nc_Mem × Int32) :=
nc_at a1 6 (fun (j1 : Nat) =>
nc_at a2 6 (fun (j2 : Nat) =>
nc_let ((if (mi (o + 5 + j1) 6) < (mi (o + 11 + j2) 8) then (mi (o + 11 + j2) 8) else (mi (o + 5 + j1) 6))) (fun (x3 : Int32) =>
if (mi (o + 11 + j2) 7) = (mi (o + 5 + j1) 5) then (
Option.bind (f_X5_letsCarry mi o a1 a2 x3) (fun (q5 : Int32) =>
if q5 = 0 then (
some (mi, 0))
else (
Option.bind (f_X5_hasSpareRoom mi o a1 a2) (fun (q7 : Int32) =>
if q7 = 0 then (
some (mi, 0))
else (
nc_let (nc_up mi (o + 5 + j1) 6 x3) (fun (mi9 : nc_Mem) =>
Option.bind (f_X5_load mi9 o a1 a2) (fun (q10 : nc_Mem) =>
some (q10, 1))))))))
else (
some (mi, 0)))))
def f_X7_take (mi : nc_Mem) (o : Nat) (a1 : Int32) (a2 : Int32) : Option (nc_Mem × Int32) :=
nc_let (Option.bind (f_X7_refuse mi o (-1)) (fun (q2 : nc_Mem × Int32) =>
some (q2.1, q2.2))) (fun (k1 : Option (nc_Mem × Int32)) =>
if (f_X5_isPerson mi (o + 1) a1) = 0 then (
k1)
else (
if (f_X5_isThing mi (o + 1) a2) = 0 then (
k1)
else (
Option.bind (f_X5_takeUp mi (o + 1) a1 a2) (fun (q5 : nc_Mem × Int32) =>
if q5.2 = 0 then (
Option.bind (f_X7_refuse q5.1 o (-3)) (fun (q7 : nc_Mem × Int32) =>
some (q7.1, q7.2)))
else (
nc_at a1 6 (fun (j8 : Nat) =>
some (q5.1, (q5.1 (o + 1 + 5 + j8) 6))))))))
def B_X5_walkTo_30 (mi : nc_Mem) (o : Nat) (a1 : Int32) (j1 : Nat) (k4 : Option (nc_Mem × Int32)) (rc8 : Int32 → Option (nc_Mem × Int32)) (x7 : Int32) : Option (nc_Mem × Int32) :=
if (mi o 6) ≤ x7 then (
k4)
else (
nc_at x7 6 (fun (j10 : Nat) =>
if (mi (o + 11 + j10) 7) = (10 + a1) then (
Option.bind (f_X5_letsCarry mi o a1 x7 (mi (o + 5 + j1) 6)) (fun (q13 : Int32) =>
if q13 = 0 then (
some (mi, 0))
else (
nc_let (x7 + 1) (fun (x15 : Int32) =>
rc8 x15))))
else (
nc_let (x7 + 1) (fun (x12 : Int32) =>
rc8 x12))))
def f_X5_walkTo (mi : nc_Mem) (o : Nat) (a1 : Int32) (a2 : Int32) : Option (nc_Mem × Int32) :=
nc_at a1 6 (fun (j1 : Nat) =>
Option.bind (f_X5_leastBetween mi o (mi (o + 5 + j1) 5) a2) (fun (q2 : Int32) =>
if q2 < 1000000 then (
nc_let (nc_let (nc_up mi (o + 5 + j1) 5 a2) (fun (mi5 : nc_Mem) =>
nc_let (nc_up mi5 (o + 5 + j1) 6 ((mi5 (o + 5 + j1) 6) + q2)) (fun (mi6 : nc_Mem) =>
some (mi6, 1)))) (fun (k4 : Option (nc_Mem × Int32)) =>
nc_loop (fun _ => none) (B_X5_walkTo_30 mi o a1 j1 k4) 200 0))
else (
some (mi, 0))))
def f_X7_go (mi : nc_Mem) (o : Nat) (a1 : Int32) (a2 : Int32) : Option (nc_Mem × Int32) :=
nc_let (Option.bind (f_X7_refuse mi o (-1)) (fun (q2 : nc_Mem × Int32) =>
some (q2.1, q2.2))) (fun (k1 : Option (nc_Mem × Int32)) =>
if (f_X5_isPerson mi (o + 1) a1) = 0 then (
k1)
else (
if (f_X5_isPlace mi (o + 1) a2) = 0 then (
k1)
else (
Option.bind (f_X5_walkTo mi (o + 1) a1 a2) (fun (q5 : nc_Mem × Int32) =>
if q5.2 = 0 then (
Option.bind (f_X7_refuse q5.1 o (-3)) (fun (q7 : nc_Mem × Int32) =>
some (q7.1, q7.2)))
else (
nc_at a1 6 (fun (j8 : Nat) =>
some (q5.1, (q5.1 (o + 1 + 5 + j8) 6))))))))
def f_X5_layDown (mi : nc_Mem) (o : Nat) (a1 : Int32) (a2 : Int32) : Option (nc_Mem × Int32) :=
nc_at a2 6 (fun (j1 : Nat) =>
if (mi (o + 11 + j1) 7) = (10 + a1) then (
nc_at a1 6 (fun (j3 : Nat) =>
nc_let (nc_up mi (o + 11 + j1) 7 (mi (o + 5 + j3) 5)) (fun (mi4 : nc_Mem) =>
nc_let (nc_up mi4 (o + 11 + j1) 8 (mi4 (o + 5 + j3) 6)) (fun (mi5 : nc_Mem) =>
some (mi5, 1)))))
else (
some (mi, 0)))
def f_X7_lay (mi : nc_Mem) (o : Nat) (a1 : Int32) (a2 : Int32) : Option (nc_Mem × Int32) :=
nc_let (Option.bind (f_X7_refuse mi o (-1)) (fun (q2 : nc_Mem × Int32) =>
some (q2.1, q2.2))) (fun (k1 : Option (nc_Mem × Int32)) =>
if (f_X5_isPerson mi (o + 1) a1) = 0 then (
k1)
else (
if (f_X5_isThing mi (o + 1) a2) = 0 then (
k1)
else (
Option.bind (f_X5_layDown mi (o + 1) a1 a2) (fun (q5 : nc_Mem × Int32) =>
if q5.2 = 0 then (
Option.bind (f_X7_refuse q5.1 o (-3)) (fun (q7 : nc_Mem × Int32) =>
some (q7.1, q7.2)))
else (
nc_at a1 6 (fun (j8 : Nat) =>
some (q5.1, (q5.1 (o + 1 + 5 + j8) 6))))))))
def f_X5_handOver (mi : nc_Mem) (o : Nat) (a1 : Int32) (a2 : Int32) (a3 : Int32) : Option (nc_Mem × Int32) :=
nc_at a1 6 (fun (j1 : Nat) =>
nc_at a2 6 (fun (j2 : Nat) =>
nc_let ((if (mi (o + 5 + j1) 6) < (mi (o + 5 + j2) 6) then (mi (o + 5 + j2) 6) else (mi (o + 5 + j1) 6))) (fun (x3 : Int32) =>
nc_at a3 6 (fun (j4 : Nat) =>
if (mi (o + 11 + j4) 7) = (10 + a1) then (
if (mi (o + 5 + j1) 5) = (mi (o + 5 + j2) 5) then (
Option.bind (f_X5_letsCarry mi o a2 a3 x3) (fun (q7 : Int32) =>
if q7 = 0 then (
some (mi, 0))
else (
Option.bind (f_X5_hasSpareRoom mi o a2 a3) (fun (q9 : Int32) =>
if q9 = 0 then (
some (mi, 0))
else (
nc_let (nc_up mi (o + 5 + j1) 6 x3) (fun (mi11 : nc_Mem) =>
nc_let (nc_up mi11 (o + 5 + j2) 6 x3) (fun (mi12 : nc_Mem) =>
Option.bind (f_X5_load mi12 o a2 a3) (fun (q13 : nc_Mem) =>
some (q13, 1)))))))))
else (
some (mi, 0)))
else (
some (mi, 0))))))
def f_X7_hand (mi : nc_Mem) (o : Nat) (a1 : Int32) (a2 : Int32) (a3 : Int32) : Option (nc_Mem × Int32) :=
nc_let (Option.bind (f_X7_refuse mi o (-1)) (fun (q2 : nc_Mem × Int32) =>
some (q2.1, q2.2))) (fun (k1 : Option (nc_Mem × Int32)) =>
if (f_X5_isPerson mi (o + 1) a1) = 0 then (
k1)
else (
if (f_X5_isPerson mi (o + 1) a2) = 0 then (
k1)
else (
if a1 = a2 then (
k1)
else (
if (f_X5_isThing mi (o + 1) a3) = 0 then (
k1)
else (
Option.bind (f_X5_handOver mi (o + 1) a1 a2 a3) (fun (q7 : nc_Mem × Int32) =>
if q7.2 = 0 then (
Option.bind (f_X7_refuse q7.1 o (-3)) (fun (q9 : nc_Mem × Int32) =>
some (q9.1, q9.2)))
else (
nc_at a1 6 (fun (j10 : Nat) =>
some (q7.1, (q7.1 (o + 1 + 5 + j10) 6))))))))))
def f_X7_tarry (mi : nc_Mem) (o : Nat) (a1 : Int32) (a2 : Int32) : Option (nc_Mem × Int32) :=
if (f_X5_isPerson mi (o + 1) a1) = 0 then (
Option.bind (f_X7_refuse mi o (-1)) (fun (q8 : nc_Mem × Int32) =>
some (q8.1, q8.2)))
else (
if 1 ≤ a2 then (
if a2 ≤ 600 then (
nc_at a1 6 (fun (j4 : Nat) =>
nc_let (nc_up mi (o + 1 + 5 + j4) 6 ((mi (o + 1 + 5 + j4) 6) + a2)) (fun (mi5 : nc_Mem) =>
some (mi5, (mi5 (o + 1 + 5 + j4) 6)))))
else (
Option.bind (f_X7_refuse mi o (-6)) (fun (q6 : nc_Mem × Int32) =>
some (q6.1, q6.2))))
else (
Option.bind (f_X7_refuse mi o (-4)) (fun (q7 : nc_Mem × Int32) =>
some (q7.1, q7.2))))
def f_X4_isOf (mi : nc_Mem) (o : Nat) (a1 : Int32) : Int32 :=
if a1 = (mi o 0) then (
1)
else (
if a1 = (mi o 1) then (
1)
else (
0))
def f_X7_give (mi : nc_Mem) (o : Nat) (a1 : Int32) (a2 : Int32) : Option (nc_Mem × Int32) :=
nc_let (Option.bind (f_X7_refuse mi o (-1)) (fun (q2 : nc_Mem × Int32) =>
some (q2.1, q2.2))) (fun (k1 : Option (nc_Mem × Int32)) =>
if (f_X5_isPerson mi (o + 1) a1) = 0 then (
k1)
else (
if (f_X5_isThing mi (o + 1) a2) = 0 then (
k1)
else (
nc_at a2 6 (fun (j5 : Nat) =>
if (f_X4_isOf mi (o + 1 + 11 + j5) a1) = 0 then (
Option.bind (f_X7_refuse mi o (-3)) (fun (q9 : nc_Mem × Int32) =>
some (q9.1, q9.2)))
else (
nc_at a1 6 (fun (j7 : Nat) =>
nc_let (nc_up mi (o + 1 + 11 + j5) 9 (mi (o + 1 + 5 + j7) 6)) (fun (mi8 : nc_Mem) =>
some (mi8, (mi8 (o + 1 + 5 + j7) 6)))))))))
def B_X7_there_4 (mi : nc_Mem) (o : Nat) (rc3 : Int32 → Int32 → Option (Int32)) (x1 : Int32) (x2 : Int32) : Option (Int32) :=
if (mi (o + 1) 6) ≤ x2 then (
some x1)
else (
nc_at x2 6 (fun (j5 : Nat) =>
if (mi (o + 1 + 11 + j5) 7) = (mi (o + 1 + 11 + j5) 3) then (
if (mi (o + 1 + 11 + j5) 5) < (mi (o + 1 + 11 + j5) 8) then (
nc_let (x2 + 1) (fun (x9 : Int32) =>
rc3 x1 x9))
else (
nc_let (x1 + 1) (fun (x10 : Int32) =>
nc_let (x2 + 1) (fun (x11 : Int32) =>
rc3 x10 x11))))
else (
nc_let (x2 + 1) (fun (x7 : Int32) =>
rc3 x1 x7))))
def f_X7_there (mi : nc_Mem) (o : Nat) : Option (Int32) :=
nc_loop (fun _ _ => none) (B_X7_there_4 mi o) 200 0 0
def f_X6_append (mi : nc_Mem) (o : Nat) (a1 : Int32) (a2 : Int32) : Option (nc_Mem) :=
if 7 ≤ (mi o 2) then (
some mi)
else (
nc_at (mi o 2) 7 (fun (j2 : Nat) =>
nc_let (nc_up mi (o + 1) j2 a1) (fun (mi3 : nc_Mem) =>
nc_at (mi3 o 2) 7 (fun (j4 : Nat) =>
nc_let (nc_up mi3 (o + 2) j4 a2) (fun (mi5 : nc_Mem) =>
nc_let (nc_up mi5 o 2 ((mi5 o 2) + 1)) (fun (mi6 : nc_Mem) =>
some mi6))))))
def f_X5_wayBetween (mi : nc_Mem) (o : Nat) (a1 : Int32) (a2 : Int32) : Option (Int32) :=
if (f_X5_isPlace mi o a1) = 0 then (
some 0)
else (
if (f_X5_isPlace mi o a2) = 0 then (
some 0)
else (
nc_at ((a1 * 7) + a2) 49 (fun (j3 : Nat) =>
some (mi (o + 3) j3))))
def B_X6_nextToward_11 (mi : nc_Mem) (r1 : Nat) (a2 : Int32) (a3 : Int32) (q1 : Int32) (rc3 : Int32 → Option (Int32)) (x2 : Int32) : Option (Int32) :=
if (mi r1 4) ≤ x2 then (
some a3)
else (
Option.bind (f_X5_wayBetween mi r1 a2 x2) (fun (q5 : Int32) =>
if q5 ≤ 0 then (
nc_let (x2 + 1) (fun (x7 : Int32) =>
rc3 x7))
else (
Option.bind (f_X5_leastBetween mi r1 x2 a3) (fun (q8 : Int32) =>
if (q5 + q8) = q1 then (
some x2)
else (
nc_let (x2 + 1) (fun (x10 : Int32) =>
rc3 x10))))))
def f_X6_nextToward (mi : nc_Mem) (o : Nat) (r1 : Nat) (a2 : Int32) (a3 : Int32) : Option (Int32) :=
Option.bind (f_X5_leastBetween mi r1 a2 a3) (fun (q1 : Int32) =>
nc_loop (fun _ => none) (B_X6_nextToward_11 mi r1 a2 a3 q1) 200 0)
def B_X6_lead_35 (o : Nat) (r1 : Nat) (a3 : Int32) (rc9 : Int32 → Int32 → Int32 → nc_Mem → Option (nc_Mem)) (x5 : Int32) (x6 : Int32) (x7 : Int32) (mi8 : nc_Mem) : Option (nc_Mem) :=
if 7 ≤ x7 then (
some mi8)
else (
if x5 = a3 then (
some mi8)
else (
Option.bind (f_X6_nextToward mi8 o r1 x5 a3) (fun (q12 : Int32) =>
Option.bind (f_X5_wayBetween mi8 r1 x5 q12) (fun (q13 : Int32) =>
nc_let ((x6 + q13)) (fun (x14 : Int32) =>
Option.bind (f_X6_append mi8 o q12 x14) (fun (q15 : nc_Mem) =>
nc_let (x7 + 1) (fun (x16 : Int32) =>
rc9 q12 x14 x16 q15)))))))
def f_X6_lead (mi : nc_Mem) (o : Nat) (r1 : Nat) (a2 : Int32) (a3 : Int32) (a4 : Int32) : Option (nc_Mem) :=
nc_let (nc_up mi o 2 0) (fun (mi1 : nc_Mem) =>
Option.bind (f_X5_leastBetween mi1 r1 a2 a3) (fun (q2 : Int32) =>
if q2 < 1000000 then (
Option.bind (f_X6_append mi1 o a2 a4) (fun (q4 : nc_Mem) =>
nc_loop (fun _ _ _ _ => none) (B_X6_lead_35 o r1 a3) 200 a2 a4 1 q4))
else (
some mi1)))
def f_X2_leadFrom (mi : nc_Mem) (o : Nat) (a1 : Int32) (a2 : Int32) : Option (nc_Mem) :=
nc_at a2 6 (fun (j1 : Nat) =>
nc_at a1 6 (fun (j2 : Nat) =>
Option.bind (f_X6_lead mi (o + 59 + 3 * j2) (o + 1) (mi (o + 1 + 5 + j1) 0) (mi (o + 1 + 5 + j1) 1) (mi (o + 1 + 5 + j2) 2)) (fun (q3 : nc_Mem) =>
some q3)))
def B_X2_recall_19 (o : Nat) (rc5 : Int32 → nc_Mem → Option (nc_Mem)) (x3 : Int32) (mi4 : nc_Mem) : Option (nc_Mem) :=
if (mi4 (o + 1) 5) ≤ x3 then (
some mi4)
else (
Option.bind (f_X2_leadFrom mi4 o x3 x3) (fun (q7 : nc_Mem) =>
nc_let (x3 + 1) (fun (x8 : Int32) =>
rc5 x8 q7)))
def f_X2_recall (mi : nc_Mem) (o : Nat) : Option (nc_Mem) :=
nc_let (nc_up mi (o + 55) 5 (mi (o + 1) 7)) (fun (mi1 : nc_Mem) =>
nc_let (nc_up mi1 (o + 55) 6 (-9)) (fun (mi2 : nc_Mem) =>
nc_loop (fun _ _ => none) (B_X2_recall_19 o) 200 0 mi2))
def B_J7_fill_53178_5 (r0 : Nat) (n0 : Nat) (a1 : Int32) (x1 : Int32) (rc4 : Int32 → nc_Mem → Option (nc_Mem)) (x2 : Int32) (mi3 : nc_Mem) : Option (nc_Mem) :=
if x1 ≤ x2 then (
some mi3)
else (
nc_at x2 n0 (fun (j6 : Nat) =>
nc_let (nc_up mi3 r0 j6 a1) (fun (mi7 : nc_Mem) =>
nc_let (x2 + 1) (fun (x8 : Int32) =>
rc4 x8 mi7))))
def f_J7_fill_53178 (mi : nc_Mem) (r0 : Nat) (n0 : Nat) (a1 : Int32) : Option (nc_Mem) :=
nc_let ((Int32.ofNat n0)) (fun (x1 : Int32) =>
nc_loop (fun _ _ => none) (B_J7_fill_53178_5 r0 n0 a1 x1) 500 0 mi)
def f_X2_lets (mi : nc_Mem) (o : Nat) (a1 : Int32) (a2 : Int32) (a3 : Int32) : Option (Int32) :=
Option.bind (f_X5_fits mi (o + 1) a1 a2) (fun (q1 : Int32) =>
if q1 = 0 then (
some 0)
else (
if a1 = (mi (o + 55) 6) then (
some 1)
else (
Option.bind (f_X5_lawLets mi (o + 1) (mi (o + 55) 5) a1 a2 a3 (-9)) (fun (q4 : Int32) =>
if q4 = 0 then (
some 0)
else (
some 1)))))
def B_X2_carryAlong_16 (o : Nat) (a1 : Int32) (a2 : Int32) (j1 : Nat) (rc6 : Int32 → Int32 → Int32 → nc_Mem → Option (nc_Mem × Int32)) (x2 : Int32) (x3 : Int32) (x4 : Int32) (mi5 : nc_Mem) : Option (nc_Mem × Int32) :=
if (mi5 (o + 59 + 3 * j1) 2) ≤ x4 then (
nc_zb x3 (some (mi5, x3)))
else (
nc_at x4 7 (fun (j8 : Nat) =>
nc_let ((mi5 (o + 59 + 3 * j1 + 1) j8)) (fun (x9 : Int32) =>
nc_let (fun (x11 : Int32) (mi12 : nc_Mem) =>
if x2 = 0 then (
nc_at x9 7 (fun (j15 : Nat) =>
if (mi12 (o + 59 + 3 * j1 + 2) j8) < (mi12 (o + 57) j15) then (
nc_let (x4 + 1) (fun (x17 : Int32) =>
rc6 0 x11 x17 mi12))
else (
Option.bind (f_X2_lets mi12 o a1 a2 (mi12 (o + 59 + 3 * j1 + 2) j8)) (fun (q18 : Int32) =>
if q18 = 0 then (
nc_let (x4 + 1) (fun (x20 : Int32) =>
rc6 0 x11 x20 mi12))
else (
nc_let (x4 + 1) (fun (x21 : Int32) =>
rc6 1 x11 x21 mi12))))))
else (
nc_let (x4 + 1) (fun (x14 : Int32) =>
rc6 1 x11 x14 mi12))) (fun (k10 : Int32 → nc_Mem → Option (nc_Mem × Int32)) =>
if x2 = 0 then (
k10 x3 mi5)
else (
nc_at x9 7 (fun (j23 : Nat) =>
if (mi5 (o + 57) j23) ≤ (mi5 (o + 59 + 3 * j1 + 2) j8) then (
k10 x3 mi5)
else (
nc_let (nc_up mi5 (o + 57) j23 (mi5 (o + 59 + 3 * j1 + 2) j8)) (fun (mi25 : nc_Mem) =>
k10 1 mi25))))))))
def f_X2_carryAlong (mi : nc_Mem) (o : Nat) (a1 : Int32) (a2 : Int32) : Option (nc_Mem × Int32) :=
nc_at a1 6 (fun (j1 : Nat) =>
nc_loop (fun _ _ _ _ => none) (B_X2_carryAlong_16 o a1 a2 j1) 200 0 0 0 mi)
def B_X2_soonestOf_50 (o : Nat) (a1 : Int32) (x10 : Int32) (rc12 : Int32 → Int32 → nc_Mem → Option (nc_Mem × Int32)) (rc18 : Int32 → Int32 → nc_Mem → Option (nc_Mem × Int32)) (x15 : Int32) (x16 : Int32) (mi17 : nc_Mem) : Option (nc_Mem × Int32) :=
if (mi17 (o + 1) 5) ≤ x16 then (
nc_let (x10 + 1) (fun (x20 : Int32) =>
rc12 x15 x20 mi17))
else (
Option.bind (f_X2_carryAlong mi17 o x16 a1) (fun (q21 : nc_Mem × Int32) =>
if q21.2 = 0 then (
nc_let (x16 + 1) (fun (x23 : Int32) =>
rc18 x15 x23 q21.1))
else (
nc_let (x16 + 1) (fun (x24 : Int32) =>
rc18 1 x24 q21.1))))
def B_X2_soonestOf_34 (o : Nat) (a1 : Int32) (k5 : nc_Mem → Option (nc_Mem × Int32)) (rc12 : Int32 → Int32 → nc_Mem → Option (nc_Mem × Int32)) (x9 : Int32) (x10 : Int32) (mi11 : nc_Mem) : Option (nc_Mem × Int32) :=
if 7 < x10 then (
k5 mi11)
else (
if x9 = 0 then (
k5 mi11)
else (
nc_loop (fun _ _ _ => none) (B_X2_soonestOf_50 o a1 x10 rc12) 200 0 0 mi11))
def f_X2_soonestOf (mi : nc_Mem) (o : Nat) (a1 : Int32) : Option (nc_Mem × Int32) :=
nc_at a1 6 (fun (j1 : Nat) =>
Option.bind (f_J7_fill_53178 mi (o + 57) 7 1000000) (fun (q2 : nc_Mem) =>
nc_at (q2 (o + 1 + 11 + j1) 2) 7 (fun (j3 : Nat) =>
nc_let (nc_up q2 (o + 57) j3 0) (fun (mi4 : nc_Mem) =>
nc_let (fun (mi6 : nc_Mem) =>
nc_at (mi6 (o + 1 + 11 + j1) 3) 7 (fun (j7 : Nat) =>
if (mi6 (o + 57) j7) < 1000000 then (
some (mi6, (mi6 (o + 57) j7)))
else (
some (mi6, (-9))))) (fun (k5 : nc_Mem → Option (nc_Mem × Int32)) =>
nc_loop (fun _ _ _ => none) (B_X2_soonestOf_34 o a1 k5) 200 1 0 mi4)))))
def f_X7_soonest (mi : nc_Mem) (o : Nat) (a1 : Int32) : Option (nc_Mem × Int32) :=
if (f_X5_isThing mi (o + 1) a1) = 0 then (
Option.bind (f_X7_refuse mi o (-1)) (fun (q4 : nc_Mem × Int32) =>
some (q4.1, q4.2)))
else (
Option.bind (f_X2_recall mi o) (fun (q2 : nc_Mem) =>
Option.bind (f_X2_soonestOf q2 o a1) (fun (q3 : nc_Mem × Int32) =>
some (q3.1, q3.2))))
def B_X6_indexAt_2 (mi : nc_Mem) (o : Nat) (a1 : Int32) (rc2 : Int32 → Option (Int32)) (x1 : Int32) : Option (Int32) :=
if (mi o 2) ≤ x1 then (
some (-1))
else (
nc_at x1 7 (fun (j4 : Nat) =>
if (mi (o + 1) j4) = a1 then (
some x1)
else (
nc_let (x1 + 1) (fun (x6 : Int32) =>
rc2 x6))))
def f_X6_indexAt (mi : nc_Mem) (o : Nat) (a1 : Int32) : Option (Int32) :=
nc_loop (fun _ => none) (B_X6_indexAt_2 mi o a1) 200 0
def B_X2_lastStart_13 (mi : nc_Mem) (o : Nat) (a1 : Int32) (a2 : Int32) (j1 : Nat) (rc4 : Int32 → Option (Int32)) (x3 : Int32) : Option (Int32) :=
if x3 < 0 then (
some (-1))
else (
nc_at x3 7 (fun (j6 : Nat) =>
nc_at (mi (o + 59 + 3 * j1 + 1) j6) 7 (fun (j7 : Nat) =>
if (mi (o + 59 + 3 * j1 + 2) j6) < (mi (o + 57) j7) then (
nc_let (x3 + (-1)) (fun (x9 : Int32) =>
rc4 x9))
else (
Option.bind (f_X2_lets mi o a1 a2 (mi (o + 59 + 3 * j1 + 2) j6)) (fun (q10 : Int32) =>
if q10 = 0 then (
nc_let (x3 + (-1)) (fun (x12 : Int32) =>
rc4 x12))
else (
some x3))))))
def f_X2_lastStart (mi : nc_Mem) (o : Nat) (a1 : Int32) (a2 : Int32) (a3 : Int32) : Option (Int32) :=
nc_at a1 6 (fun (j1 : Nat) =>
nc_let ((a3 - 1)) (fun (x2 : Int32) =>
nc_loop (fun _ => none) (B_X2_lastStart_13 mi o a1 a2 j1) 200 x2))
def B_X2_traceStep_2 (mi : nc_Mem) (o : Nat) (a1 : Int32) (a2 : Int32) (k1 : Option (nc_Mem × Int32)) (rc4 : Int32 → Option (nc_Mem × Int32)) (x3 : Int32) : Option (nc_Mem × Int32) :=
if (mi (o + 1) 5) ≤ x3 then (
k1)
else (
nc_at x3 6 (fun (j6 : Nat) =>
Option.bind (f_X6_indexAt mi (o + 59 + 3 * j6) a2) (fun (q7 : Int32) =>
if q7 < 0 then (
nc_let (x3 + 1) (fun (x9 : Int32) =>
rc4 x9))
else (
nc_at q7 7 (fun (j10 : Nat) =>
nc_at a2 7 (fun (j11 : Nat) =>
if (mi (o + 59 + 3 * j6 + 2) j10) = (mi (o + 57) j11) then (
Option.bind (f_X2_lastStart mi o x3 a1 q7) (fun (q13 : Int32) =>
if q13 < 0 then (
nc_let (x3 + 1) (fun (x15 : Int32) =>
rc4 x15))
else (
if 7 ≤ (mi (o + 55) 4) then (
nc_let (x3 + 1) (fun (x17 : Int32) =>
rc4 x17))
else (
nc_at (mi (o + 55) 4) 7 (fun (j18 : Nat) =>
nc_let (nc_up mi (o + 58) j18 x3) (fun (mi19 : nc_Mem) =>
nc_let (nc_up mi19 (o + 55) 4 ((mi19 (o + 55) 4) + 1)) (fun (mi20 : nc_Mem) =>
nc_at q13 7 (fun (j21 : Nat) =>
some (mi20, (mi20 (o + 59 + 3 * j6 + 1) j21))))))))))
else (
nc_let (x3 + 1) (fun (x22 : Int32) =>
rc4 x22))))))))
def f_X2_traceStep (mi : nc_Mem) (o : Nat) (a1 : Int32) (a2 : Int32) : Option (nc_Mem × Int32) :=
nc_let (nc_at a1 6 (fun (j2 : Nat) =>
some (mi, (mi (o + 1 + 11 + j2) 2)))) (fun (k1 : Option (nc_Mem × Int32)) =>
nc_loop (fun _ => none) (B_X2_traceStep_2 mi o a1 a2 k1) 200 0)
def B_X2_traceBack_23 (o : Nat) (a1 : Int32) (j1 : Nat) (rc7 : Int32 → Int32 → nc_Mem → Option (nc_Mem)) (x4 : Int32) (x5 : Int32) (mi6 : nc_Mem) : Option (nc_Mem) :=
if 7 ≤ x5 then (
some mi6)
else (
if x4 = (mi6 (o + 1 + 11 + j1) 2) then (
some mi6)
else (
Option.bind (f_X2_traceStep mi6 o a1 x4) (fun (q10 : nc_Mem × Int32) =>
nc_let (x5 + 1) (fun (x11 : Int32) =>
rc7 q10.2 x11 q10.1))))
def f_X2_traceBack (mi : nc_Mem) (o : Nat) (a1 : Int32) : Option (nc_Mem) :=
nc_at a1 6 (fun (j1 : Nat) =>
nc_let ((mi (o + 1 + 11 + j1) 3)) (fun (x2 : Int32) =>
nc_let (nc_up mi (o + 55) 4 0) (fun (mi3 : nc_Mem) =>
nc_loop (fun _ _ _ => none) (B_X2_traceBack_23 o a1 j1) 200 x2 0 mi3)))
def f_X2_carrierAt (mi : nc_Mem) (o : Nat) (a1 : Int32) : Option (Int32) :=
if a1 < 0 then (
some (-9))
else (
if (mi (o + 55) 4) ≤ a1 then (
some (-9))
else (
nc_at (((mi (o + 55) 4) - 1) - a1) 7 (fun (j3 : Nat) =>
some (mi (o + 58) j3))))
def f_X7_over (mi : nc_Mem) (o : Nat) (a1 : Int32) (a2 : Int32) : Option (nc_Mem × Int32) :=
if (f_X5_isThing mi (o + 1) a1) = 0 then (
Option.bind (f_X7_refuse mi o (-1)) (fun (q10 : nc_Mem × Int32) =>
some (q10.1, q10.2)))
else (
if (-1) ≤ a2 then (
Option.bind (f_X2_recall mi o) (fun (q3 : nc_Mem) =>
Option.bind (f_X2_soonestOf q3 o a1) (fun (q4 : nc_Mem × Int32) =>
if q4.2 = (-9) then (
some (q4.1, (-9)))
else (
Option.bind (f_X2_traceBack q4.1 o a1) (fun (q6 : nc_Mem) =>
if 0 ≤ a2 then (
Option.bind (f_X2_carrierAt q6 o a2) (fun (q8 : Int32) =>
some (q6, q8)))
else (
some (q6, (q6 (o + 55) 4))))))))
else (
Option.bind (f_X7_refuse mi o (-4)) (fun (q9 : nc_Mem × Int32) =>
some (q9.1, q9.2))))
def B_X2_barredBits_16 (o : Nat) (a1 : Int32) (k3 : Int32 → nc_Mem → Option (nc_Mem × Int32)) (rc10 : Int32 → Int32 → nc_Mem → Option (nc_Mem × Int32)) (x7 : Int32) (x8 : Int32) (mi9 : nc_Mem) : Option (nc_Mem × Int32) :=
if (mi9 (o + 1) 5) ≤ x8 then (
k3 x7 mi9)
else (
nc_let (nc_up mi9 (o + 55) 6 x8) (fun (mi12 : nc_Mem) =>
Option.bind (f_X2_soonestOf mi12 o a1) (fun (q13 : nc_Mem × Int32) =>
if q13.2 = (-9) then (
nc_let (x8 + 1) (fun (x15 : Int32) =>
rc10 x7 x15 q13.1))
else (
nc_let ((x7 ||| ((1 : Int32) <<< (x8 &&& 31)))) (fun (x16 : Int32) =>
nc_let (x8 + 1) (fun (x17 : Int32) =>
rc10 x16 x17 q13.1))))))
def f_X2_barredBits (mi : nc_Mem) (o : Nat) (a1 : Int32) : Option (nc_Mem × Int32) :=
Option.bind (f_X2_soonestOf mi o a1) (fun (q1 : nc_Mem × Int32) =>
if q1.2 = (-9) then (
nc_let (fun (x4 : Int32) (mi5 : nc_Mem) =>
nc_let (nc_up mi5 (o + 55) 6 (-9)) (fun (mi6 : nc_Mem) =>
some (mi6, x4))) (fun (k3 : Int32 → nc_Mem → Option (nc_Mem × Int32)) =>
nc_loop (fun _ _ _ => none) (B_X2_barredBits_16 o a1 k3) 200 0 0 q1.1))
else (
some (q1.1, 0)))
def f_X7_bars (mi : nc_Mem) (o : Nat) (a1 : Int32) : Option (nc_Mem × Int32) :=
if (f_X5_isThing mi (o + 1) a1) = 0 then (
Option.bind (f_X7_refuse mi o (-1)) (fun (q4 : nc_Mem × Int32) =>
some (q4.1, q4.2)))
else (
Option.bind (f_X2_recall mi o) (fun (q2 : nc_Mem) =>
Option.bind (f_X2_barredBits q2 o a1) (fun (q3 : nc_Mem × Int32) =>
some (q3.1, q3.2))))
def B_X7_never_11 (o : Nat) (rc5 : Int32 → Int32 → nc_Mem → Option (nc_Mem × Int32)) (x2 : Int32) (x3 : Int32) (mi4 : nc_Mem) : Option (nc_Mem × Int32) :=
if (mi4 (o + 1) 6) ≤ x3 then (
some (mi4, x2))
else (
Option.bind (f_X2_soonestOf mi4 o x3) (fun (q7 : nc_Mem × Int32) =>
if q7.2 = (-9) then (
nc_let ((x2 ||| ((1 : Int32) <<< (x3 &&& 31)))) (fun (x10 : Int32) =>
nc_let (x3 + 1) (fun (x11 : Int32) =>
rc5 x10 x11 q7.1)))
else (
nc_let (x3 + 1) (fun (x9 : Int32) =>
rc5 x2 x9 q7.1))))
def f_X7_never (mi : nc_Mem) (o : Nat) : Option (nc_Mem × Int32) :=
Option.bind (f_X2_recall mi o) (fun (q1 : nc_Mem) =>
nc_loop (fun _ _ _ => none) (B_X7_never_11 o) 200 0 0 q1)
def B_X2_somebodyComesBy_2 (mi : nc_Mem) (o : Nat) (a1 : Int32) (a2 : Int32) (rc2 : Int32 → Option (Int32)) (x1 : Int32) : Option (Int32) :=
if (mi (o + 1) 5) ≤ x1 then (
some 0)
else (
nc_at x1 6 (fun (j4 : Nat) =>
Option.bind (f_X6_indexAt mi (o + 59 + 3 * j4) a2) (fun (q5 : Int32) =>
if q5 < 0 then (
nc_let (x1 + 1) (fun (x7 : Int32) =>
rc2 x7))
else (
nc_at q5 7 (fun (j8 : Nat) =>
Option.bind (f_X2_lets mi o x1 a1 (mi (o + 59 + 3 * j4 + 2) j8)) (fun (q9 : Int32) =>
if q9 = 0 then (
nc_let (x1 + 1) (fun (x11 : Int32) =>
rc2 x11))
else (
some 1)))))))
def f_X2_somebodyComesBy (mi : nc_Mem) (o : Nat) (a1 : Int32) (a2 : Int32) : Option (Int32) :=
nc_loop (fun _ => none) (B_X2_somebodyComesBy_2 mi o a1 a2) 200 0
def f_X7_why (mi : nc_Mem) (o : Nat) (a1 : Int32) : Option (nc_Mem × Int32) :=
if (f_X5_isThing mi (o + 1) a1) = 0 then (
Option.bind (f_X7_refuse mi o (-1)) (fun (q10 : nc_Mem × Int32) =>
some (q10.1, q10.2)))
else (
Option.bind (f_X2_recall mi o) (fun (q2 : nc_Mem) =>
Option.bind (f_X2_soonestOf q2 o a1) (fun (q3 : nc_Mem × Int32) =>
if q3.2 = (-9) then (
nc_at a1 6 (fun (j5 : Nat) =>
Option.bind (f_X2_somebodyComesBy q3.1 o a1 (q3.1 (o + 1 + 11 + j5) 2)) (fun (q6 : Int32) =>
if q6 = 0 then (
some (q3.1, 1))
else (
Option.bind (f_X2_somebodyComesBy q3.1 o a1 (q3.1 (o + 1 + 11 + j5) 3)) (fun (q8 : Int32) =>
if q8 = 0 then (
some (q3.1, 2))
else (
some (q3.1, 4)))))))
else (
some (q3.1, 0)))))
def f_X5_roundMinute (mi : nc_Mem) (o : Nat) (a1 : Int32) (a2 : Int32) : Option (Int32) :=
nc_at a1 6 (fun (j1 : Nat) =>
nc_at a2 6 (fun (j2 : Nat) =>
Option.bind (f_X5_leastBetween mi o (mi (o + 5 + j1) 0) (mi (o + 11 + j2) 2)) (fun (q3 : Int32) =>
Option.bind (f_X5_leastBetween mi o (mi (o + 11 + j2) 2) (mi (o + 11 + j2) 3)) (fun (q4 : Int32) =>
if 1000000 ≤ q3 then (
some (-9))
else (
if 1000000 ≤ q4 then (
some (-9))
else (
Option.bind (f_X5_leastBetween mi o (mi (o + 11 + j2) 3) (mi (o + 5 + j1) 1)) (fun (q7 : Int32) =>
if q7 < 1000000 then (
nc_let (((mi (o + 5 + j1) 2) + q3)) (fun (x9 : Int32) =>
Option.bind (f_X5_fits mi o a1 a2) (fun (q10 : Int32) =>
if q10 = 0 then (
some (-9))
else (
Option.bind (f_X5_lawLets mi o (mi o 7) a1 a2 x9 (-9)) (fun (q12 : Int32) =>
if q12 = 0 then (
some (-9))
else (
nc_let ((x9 + q4)) (fun (x14 : Int32) =>
if x14 ≤ (mi (o + 11 + j2) 5) then (
some x14)
else (
some (-9)))))))))
else (
some (-9)))))))))
def f_X5_roundMore (mi : nc_Mem) (o : Nat) (a1 : Int32) (a2 : Int32) : Option (Int32) :=
nc_at a1 6 (fun (j1 : Nat) =>
nc_at a2 6 (fun (j2 : Nat) =>
Option.bind (f_X5_leastBetween mi o (mi (o + 5 + j1) 0) (mi (o + 11 + j2) 2)) (fun (q3 : Int32) =>
Option.bind (f_X5_leastBetween mi o (mi (o + 11 + j2) 2) (mi (o + 11 + j2) 3)) (fun (q4 : Int32) =>
Option.bind (f_X5_leastBetween mi o (mi (o + 11 + j2) 3) (mi (o + 5 + j1) 1)) (fun (q5 : Int32) =>
Option.bind (f_X5_leastBetween mi o (mi (o + 5 + j1) 0) (mi (o + 5 + j1) 1)) (fun (q6 : Int32) =>
some (((q3 + q4) + q5) - q6)))))))
def f_X7_round (mi : nc_Mem) (o : Nat) (a1 : Int32) (a2 : Int32) (a3 : Int32) : Option (nc_Mem × Int32) :=
nc_let (Option.bind (f_X7_refuse mi o (-1)) (fun (q2 : nc_Mem × Int32) =>
some (q2.1, q2.2))) (fun (k1 : Option (nc_Mem × Int32)) =>
if (f_X5_isPerson mi (o + 1) a1) = 0 then (
k1)
else (
if (f_X5_isThing mi (o + 1) a2) = 0 then (
k1)
else (
nc_let (Option.bind (f_X7_refuse mi o (-2)) (fun (q6 : nc_Mem × Int32) =>
some (q6.1, q6.2))) (fun (k5 : Option (nc_Mem × Int32)) =>
if a3 < 0 then (
k5)
else (
if a3 ≤ 1 then (
Option.bind (f_X5_roundMinute mi (o + 1) a1 a2) (fun (q9 : Int32) =>
if q9 = (-9) then (
some (mi, q9))
else (
if a3 = 0 then (
some (mi, q9))
else (
Option.bind (f_X5_roundMore mi (o + 1) a1 a2) (fun (q12 : Int32) =>
some (mi, q12))))))
else (
k5))))))
def B_X0_weigh_22 (o : Nat) (r1 : Nat) (a2 : Int32) (x2 : Int32) (rc4 : Int32 → nc_Mem → Option (nc_Mem)) (rc8 : Int32 → nc_Mem → Option (nc_Mem)) (x6 : Int32) (mi7 : nc_Mem) : Option (nc_Mem) :=
if (mi7 r1 6) ≤ x6 then (
nc_let (x2 + 1) (fun (x10 : Int32) =>
rc4 x10 mi7))
else (
if x2 = a2 then (
nc_let (x6 + 1) (fun (x12 : Int32) =>
rc8 x12 mi7))
else (
Option.bind (f_X5_roundMinute mi7 r1 x2 x6) (fun (q13 : Int32) =>
if q13 = (-9) then (
nc_let (x6 + 1) (fun (x15 : Int32) =>
rc8 x15 mi7))
else (
nc_at x6 6 (fun (j16 : Nat) =>
Option.bind (f_X5_roundMore mi7 r1 x2 x6) (fun (q17 : Int32) =>
nc_at ((x2 * 6) + x6) 36 (fun (j18 : Nat) =>
nc_let (nc_up mi7 (o + 1) j18 ((mi7 (r1 + 11 + j16) 6) - q17)) (fun (mi19 : nc_Mem) =>
nc_let (x6 + 1) (fun (x20 : Int32) =>
rc8 x20 mi19)))))))))
def B_X0_weigh_11 (o : Nat) (r1 : Nat) (a2 : Int32) (rc4 : Int32 → nc_Mem → Option (nc_Mem)) (x2 : Int32) (mi3 : nc_Mem) : Option (nc_Mem) :=
if (mi3 r1 5) ≤ x2 then (
some mi3)
else (
nc_loop (fun _ _ => none) (B_X0_weigh_22 o r1 a2 x2 rc4) 200 0 mi3)
def f_X0_weigh (mi : nc_Mem) (o : Nat) (r1 : Nat) (a2 : Int32) : Option (nc_Mem) :=
Option.bind (f_J7_fill_53178 mi (o + 1) 36 (-1000000)) (fun (q1 : nc_Mem) =>
nc_loop (fun _ _ => none) (B_X0_weigh_11 o r1 a2) 200 0 q1)
def f_X0_sumWith (mi : nc_Mem) (o : Nat) (a1 : Int32) (a2 : Int32) (a3 : Int32) : Option (Int32) :=
nc_at ((a1 * 6) + a2) 36 (fun (j1 : Nat) =>
nc_at (((a1 + 1) * 64) + (a3 ||| ((1 : Int32) <<< (a2 &&& 31)))) 448 (fun (j2 : Nat) =>
some ((mi (o + 1) j1) + (mi (o + 2) j2))))
def B_X0_bestFrom_18 (mi : nc_Mem) (o : Nat) (r1 : Nat) (a2 : Int32) (a3 : Int32) (rc5 : Int32 → Int32 → Option (Int32)) (x3 : Int32) (x4 : Int32) : Option (Int32) :=
if (mi r1 6) ≤ x4 then (
some x3)
else (
if ((a3 >>> (x4 &&& 31)) &&& 1) = 0 then (
Option.bind (f_X0_sumWith mi o a2 x4 a3) (fun (q9 : Int32) =>
nc_let ((if x3 < q9 then q9 else x3)) (fun (x10 : Int32) =>
nc_let (x4 + 1) (fun (x11 : Int32) =>
rc5 x10 x11))))
else (
nc_let (x4 + 1) (fun (x8 : Int32) =>
rc5 x3 x8)))
def f_X0_bestFrom (mi : nc_Mem) (o : Nat) (r1 : Nat) (a2 : Int32) (a3 : Int32) : Option (Int32) :=
nc_at (((a2 + 1) * 64) + a3) 448 (fun (j1 : Nat) =>
nc_let ((mi (o + 2) j1)) (fun (x2 : Int32) =>
nc_loop (fun _ _ => none) (B_X0_bestFrom_18 mi o r1 a2 a3) 200 x2 0))
def B_X0_bestSum_28 (o : Nat) (r1 : Nat) (x6 : Int32) (rc8 : Int32 → nc_Mem → Option (nc_Mem × Int32)) (rc12 : Int32 → nc_Mem → Option (nc_Mem × Int32)) (x10 : Int32) (mi11 : nc_Mem) : Option (nc_Mem × Int32) :=
if 64 ≤ x10 then (
nc_let (x6 + (-1)) (fun (x14 : Int32) =>
rc8 x14 mi11))
else (
Option.bind (f_X0_bestFrom mi11 o r1 x6 x10) (fun (q15 : Int32) =>
nc_at ((x6 * 64) + x10) 448 (fun (j16 : Nat) =>
nc_let (nc_up mi11 (o + 2) j16 q15) (fun (mi17 : nc_Mem) =>
nc_let (x10 + 1) (fun (x18 : Int32) =>
rc12 x18 mi17)))))
def B_X0_bestSum_21 (o : Nat) (r1 : Nat) (k4 : nc_Mem → Option (nc_Mem × Int32)) (rc8 : Int32 → nc_Mem → Option (nc_Mem × Int32)) (x6 : Int32) (mi7 : nc_Mem) : Option (nc_Mem × Int32) :=
if x6 < 0 then (
k4 mi7)
else (
nc_loop (fun _ _ => none) (B_X0_bestSum_28 o r1 x6 rc8) 200 0 mi7)
def f_X0_bestSum (mi : nc_Mem) (o : Nat) (r1 : Nat) (a2 : Int32) : Option (nc_Mem × Int32) :=
Option.bind (f_X0_weigh mi o r1 a2) (fun (q1 : nc_Mem) =>
Option.bind (f_J7_fill_53178 q1 (o + 2) 448 0) (fun (q2 : nc_Mem) =>
nc_let (((q2 r1 5) - 1)) (fun (x3 : Int32) =>
nc_let (fun (mi5 : nc_Mem) =>
some (mi5, (mi5 (o + 2) 0))) (fun (k4 : nc_Mem → Option (nc_Mem × Int32)) =>
nc_loop (fun _ _ => none) (B_X0_bestSum_21 o r1 k4) 200 x3 q2))))
def B_X0_firstChoice_37 (mi : nc_Mem) (o : Nat) (r1 : Nat) (a2 : Int32) (a3 : Int32) (x2 : Int32) (rc6 : Int32 → Option (Int32)) (x5 : Int32) : Option (Int32) :=
if (mi r1 6) ≤ x5 then (
some (-9))
else (
if ((a3 >>> (x5 &&& 31)) &&& 1) = 0 then (
Option.bind (f_X0_sumWith mi o a2 x5 a3) (fun (q10 : Int32) =>
if q10 = x2 then (
some x5)
else (
nc_let (x5 + 1) (fun (x12 : Int32) =>
rc6 x12))))
else (
nc_let (x5 + 1) (fun (x9 : Int32) =>
rc6 x9)))
def f_X0_firstChoice (mi : nc_Mem) (o : Nat) (r1 : Nat) (a2 : Int32) (a3 : Int32) : Option (Int32) :=
nc_at ((a2 * 64) + a3) 448 (fun (j1 : Nat) =>
nc_let ((mi (o + 2) j1)) (fun (x2 : Int32) =>
nc_at (((a2 + 1) * 64) + a3) 448 (fun (j3 : Nat) =>
if (mi (o + 2) j3) = x2 then (
some (-9))
else (
nc_loop (fun _ => none) (B_X0_firstChoice_37 mi o r1 a2 a3 x2) 200 0))))
def B_X0_thingOf_9 (mi : nc_Mem) (o : Nat) (r1 : Nat) (a2 : Int32) (rc4 : Int32 → Int32 → Int32 → Option (Int32)) (x1 : Int32) (x2 : Int32) (x3 : Int32) : Option (Int32) :=
if a2 < x3 then (
some x2)
else (
if (mi r1 5) ≤ x3 then (
some x2)
else (
Option.bind (f_X0_firstChoice mi o r1 x3 x1) (fun (q7 : Int32) =>
if q7 = (-9) then (
nc_let (x3 + 1) (fun (x9 : Int32) =>
rc4 x1 q7 x9))
else (
nc_let ((x1 ||| ((1 : Int32) <<< (q7 &&& 31)))) (fun (x10 : Int32) =>
nc_let (x3 + 1) (fun (x11 : Int32) =>
rc4 x10 q7 x11))))))
def f_X0_thingOf (mi : nc_Mem) (o : Nat) (r1 : Nat) (a2 : Int32) : Option (Int32) :=
nc_loop (fun _ _ _ => none) (B_X0_thingOf_9 mi o r1 a2) 200 0 (-9) 0
def f_X7_each (mi : nc_Mem) (o : Nat) (a1 : Int32) : Option (nc_Mem × Int32) :=
nc_let (Option.bind (f_X0_bestSum mi (o + 77) (o + 1) (-9)) (fun (q2 : nc_Mem × Int32) =>
if 0 ≤ a1 then (
Option.bind (f_X0_thingOf q2.1 (o + 77) (o + 1) a1) (fun (q4 : Int32) =>
some (q2.1, q4)))
else (
some (q2.1, q2.2)))) (fun (k1 : Option (nc_Mem × Int32)) =>
if a1 = (-1) then (
k1)
else (
if (f_X5_isPerson mi (o + 1) a1) = 0 then (
Option.bind (f_X7_refuse mi o (-1)) (fun (q7 : nc_Mem × Int32) =>
some (q7.1, q7.2)))
else (
k1)))
def f_X7_pay (mi : nc_Mem) (o : Nat) (a1 : Int32) : Option (nc_Mem × Int32) :=
if (f_X5_isPerson mi (o + 1) a1) = 0 then (
Option.bind (f_X7_refuse mi o (-1)) (fun (q4 : nc_Mem × Int32) =>
some (q4.1, q4.2)))
else (
Option.bind (f_X0_bestSum mi (o + 77) (o + 1) (-9)) (fun (q2 : nc_Mem × Int32) =>
Option.bind (f_X0_bestSum q2.1 (o + 77) (o + 1) a1) (fun (q3 : nc_Mem × Int32) =>
some (q3.1, (q2.2 - q3.2)))))
def f_X2_isInTime (mi : nc_Mem) (o : Nat) (a1 : Int32) : Option (nc_Mem × Int32) :=
Option.bind (f_X2_soonestOf mi o a1) (fun (q1 : nc_Mem × Int32) =>
if q1.2 = (-9) then (
some (q1.1, 0))
else (
nc_at a1 6 (fun (j3 : Nat) =>
if (q1.1 (o + 1 + 11 + j3) 5) < q1.2 then (
some (q1.1, 0))
else (
some (q1.1, 1)))))
def f_X5_strangerCanBring (mi : nc_Mem) (o : Nat) (a1 : Int32) : Option (Int32) :=
nc_at a1 6 (fun (j1 : Nat) =>
Option.bind (f_X5_leastBetween mi o 0 (mi (o + 11 + j1) 2)) (fun (q2 : Int32) =>
Option.bind (f_X5_leastBetween mi o (mi (o + 11 + j1) 2) (mi (o + 11 + j1) 3)) (fun (q3 : Int32) =>
if (mi (o + 11 + j1) 5) < (q2 + q3) then (
some 0)
else (
some 1))))
def B_X7_fewest_11 (o : Nat) (rc5 : Int32 → Int32 → nc_Mem → Option (nc_Mem × Int32)) (x2 : Int32) (x3 : Int32) (mi4 : nc_Mem) : Option (nc_Mem × Int32) :=
if (mi4 (o + 1) 6) ≤ x3 then (
some (mi4, x2))
else (
Option.bind (f_X2_isInTime mi4 o x3) (fun (q7 : nc_Mem × Int32) =>
if q7.2 = 0 then (
Option.bind (f_X5_strangerCanBring q7.1 (o + 1) x3) (fun (q9 : Int32) =>
if q9 = 0 then (
some (q7.1, (-9)))
else (
nc_let (x2 + 1) (fun (x11 : Int32) =>
nc_let (x3 + 1) (fun (x12 : Int32) =>
rc5 x11 x12 q7.1)))))
else (
nc_let (x3 + 1) (fun (x13 : Int32) =>
rc5 x2 x13 q7.1))))
def f_X7_fewest (mi : nc_Mem) (o : Nat) : Option (nc_Mem × Int32) :=
Option.bind (f_X2_recall mi o) (fun (q1 : nc_Mem) =>
nc_loop (fun _ _ _ => none) (B_X7_fewest_11 o) 200 0 0 q1)
def B_X2_sumOfSoonest_4 (o : Nat) (rc4 : Int32 → Int32 → nc_Mem → Option (nc_Mem × Int32)) (x1 : Int32) (x2 : Int32) (mi3 : nc_Mem) : Option (nc_Mem × Int32) :=
if (mi3 (o + 1) 6) ≤ x2 then (
some (mi3, x1))
else (
Option.bind (f_X2_soonestOf mi3 o x2) (fun (q6 : nc_Mem × Int32) =>
if q6.2 = (-9) then (
nc_let ((x1 + 999)) (fun (x10 : Int32) =>
nc_let (x2 + 1) (fun (x11 : Int32) =>
rc4 x10 x11 q6.1)))
else (
nc_let ((x1 + q6.2)) (fun (x8 : Int32) =>
nc_let (x2 + 1) (fun (x9 : Int32) =>
rc4 x8 x9 q6.1)))))
def f_X2_sumOfSoonest (mi : nc_Mem) (o : Nat) : Option (nc_Mem × Int32) :=
nc_loop (fun _ _ _ => none) (B_X2_sumOfSoonest_4 o) 200 0 0 mi
def f_X7_beside (mi : nc_Mem) (o : Nat) : Option (nc_Mem × Int32) :=
Option.bind (f_X2_recall mi o) (fun (q1 : nc_Mem) =>
Option.bind (f_X2_sumOfSoonest q1 o) (fun (q2 : nc_Mem × Int32) =>
nc_let (nc_up q2.1 (o + 55) 5 3) (fun (mi3 : nc_Mem) =>
Option.bind (f_X2_sumOfSoonest mi3 o) (fun (q4 : nc_Mem × Int32) =>
some (q4.1, (q2.2 - q4.2))))))
def B_X2_bestChange_26 (o : Nat) (x4 : Int32) (rc6 : Int32 → Int32 → Int32 → nc_Mem → Option (nc_Mem × Int32)) (rc13 : Int32 → Int32 → Int32 → nc_Mem → Option (nc_Mem × Int32)) (x9 : Int32) (x10 : Int32) (x11 : Int32) (mi12 : nc_Mem) : Option (nc_Mem × Int32) :=
if (mi12 (o + 1) 5) ≤ x11 then (
nc_let (x4 + 1) (fun (x15 : Int32) =>
rc6 x9 x10 x15 mi12))
else (
Option.bind (f_X2_leadFrom mi12 o x4 x11) (fun (q16 : nc_Mem) =>
Option.bind (f_X2_leadFrom q16 o x11 x4) (fun (q17 : nc_Mem) =>
Option.bind (f_X2_sumOfSoonest q17 o) (fun (q18 : nc_Mem × Int32) =>
Option.bind (f_X2_leadFrom q18.1 o x4 x4) (fun (q19 : nc_Mem) =>
Option.bind (f_X2_leadFrom q19 o x11 x11) (fun (q20 : nc_Mem) =>
if x9 ≤ q18.2 then (
nc_let (x11 + 1) (fun (x22 : Int32) =>
rc13 x9 x10 x22 q20))
else (
nc_let (((10 * x4) + x11)) (fun (x23 : Int32) =>
nc_let (x11 + 1) (fun (x24 : Int32) =>
rc13 q18.2 x23 x24 q20)))))))))
def B_X2_bestChange_10 (o : Nat) (rc6 : Int32 → Int32 → Int32 → nc_Mem → Option (nc_Mem × Int32)) (x2 : Int32) (x3 : Int32) (x4 : Int32) (mi5 : nc_Mem) : Option (nc_Mem × Int32) :=
if (mi5 (o + 1) 5) ≤ x4 then (
some (mi5, x3))
else (
nc_let ((x4 + 1)) (fun (x8 : Int32) =>
nc_loop (fun _ _ _ _ => none) (B_X2_bestChange_26 o x4 rc6) 200 x2 x3 x8 mi5))
def f_X2_bestChange (mi : nc_Mem) (o : Nat) : Option (nc_Mem × Int32) :=
Option.bind (f_X2_sumOfSoonest mi o) (fun (q1 : nc_Mem × Int32) =>
nc_loop (fun _ _ _ _ => none) (B_X2_bestChange_10 o) 200 q1.2 (-9) 0 q1.1)
def f_X7_houses (mi : nc_Mem) (o : Nat) : Option (nc_Mem × Int32) :=
Option.bind (f_X2_recall mi o) (fun (q1 : nc_Mem) =>
Option.bind (f_X2_bestChange q1 o) (fun (q2 : nc_Mem × Int32) =>
some (q2.1, q2.2)))
def f_X2_drawFrom (mi : nc_Mem) (o : Nat) : (nc_Mem × Int32) :=
nc_let (nc_up mi (o + 55) 7 (((mi (o + 55) 7) * 1664525) + 1013904223)) (fun (mi1 : nc_Mem) =>
(mi1, ((((mi1 (o + 55) 7) &&& 2147483647) / 256) - (((mi1 (o + 55) 7) &&& 2147483647) / 256) / 721 * 721)))
def B_X2_inTimeOnDays_84 (o : Nat) (x3 : Int32) (rc5 : Int32 → Int32 → nc_Mem → Option (nc_Mem × Int32)) (rc14 : Int32 → Int32 → nc_Mem → Option (nc_Mem × Int32)) (x11 : Int32) (x12 : Int32) (mi13 : nc_Mem) : Option (nc_Mem × Int32) :=
if (mi13 (o + 1) 6) ≤ x12 then (
nc_let (x3 + 1) (fun (x16 : Int32) =>
rc5 x11 x16 mi13))
else (
Option.bind (f_X2_isInTime mi13 o x12) (fun (q17 : nc_Mem × Int32) =>
if q17.2 = 0 then (
nc_let ((x11 + 0)) (fun (x19 : Int32) =>
nc_let (x12 + 1) (fun (x20 : Int32) =>
rc14 x19 x20 q17.1)))
else (
nc_let ((x11 + 1)) (fun (x21 : Int32) =>
nc_let (x12 + 1) (fun (x22 : Int32) =>
rc14 x21 x22 q17.1)))))
def B_X2_inTimeOnDays_19 (o : Nat) (x2 : Int32) (x3 : Int32) (rc5 : Int32 → Int32 → nc_Mem → Option (nc_Mem × Int32)) (rc9 : Int32 → nc_Mem → Option (nc_Mem × Int32)) (x7 : Int32) (mi8 : nc_Mem) : Option (nc_Mem × Int32) :=
if (mi8 (o + 1) 5) ≤ x7 then (
nc_loop (fun _ _ _ => none) (B_X2_inTimeOnDays_84 o x3 rc5) 200 x2 0 mi8)
else (
nc_at x7 6 (fun (j23 : Nat) =>
nc_let (f_X2_drawFrom mi8 o) (fun (q24 : nc_Mem × Int32) =>
Option.bind (f_X6_lead q24.1 (o + 59 + 3 * j23) (o + 1) (mi8 (o + 1 + 5 + j23) 0) (mi8 (o + 1 + 5 + j23) 1) q24.2) (fun (q25 : nc_Mem) =>
nc_let (x7 + 1) (fun (x26 : Int32) =>
rc9 x26 q25)))))
def B_X2_inTimeOnDays_10 (o : Nat) (a1 : Int32) (rc5 : Int32 → Int32 → nc_Mem → Option (nc_Mem × Int32)) (x2 : Int32) (x3 : Int32) (mi4 : nc_Mem) : Option (nc_Mem × Int32) :=
if a1 ≤ x3 then (
some (mi4, x2))
else (
nc_loop (fun _ _ => none) (B_X2_inTimeOnDays_19 o x2 x3 rc5) 200 0 mi4)
def f_X2_inTimeOnDays (mi : nc_Mem) (o : Nat) (a1 : Int32) (a2 : Int32) : Option (nc_Mem × Int32) :=
nc_let (nc_up mi (o + 55) 7 a2) (fun (mi1 : nc_Mem) =>
nc_loop (fun _ _ _ => none) (B_X2_inTimeOnDays_10 o a1) 200 0 0 mi1)
def f_X7_days (mi : nc_Mem) (o : Nat) (a1 : Int32) (a2 : Int32) : Option (nc_Mem × Int32) :=
if 1 ≤ a1 then (
if a1 ≤ 14 then (
Option.bind (f_X2_recall mi o) (fun (q3 : nc_Mem) =>
Option.bind (f_X2_inTimeOnDays q3 o a1 a2) (fun (q4 : nc_Mem × Int32) =>
some (q4.1, q4.2))))
else (
Option.bind (f_X7_refuse mi o (-6)) (fun (q5 : nc_Mem × Int32) =>
some (q5.1, q5.2))))
else (
Option.bind (f_X7_refuse mi o (-4)) (fun (q6 : nc_Mem × Int32) =>
some (q6.1, q6.2)))
def f_X7_row (mi : nc_Mem) (o : Nat) (a1 : Int32) : Option (nc_Mem × Int32) :=
if 0 ≤ a1 then (
nc_let (Option.bind (f_X7_refuse mi o (-6)) (fun (q3 : nc_Mem × Int32) =>
some (q3.1, q3.2))) (fun (k2 : Option (nc_Mem × Int32)) =>
if 9 < a1 then (
k2)
else (
if (mi o 8) < 6 then (
nc_at (mi o 8) 6 (fun (j6 : Nat) =>
nc_let (nc_up mi (o + 80) j6 a1) (fun (mi7 : nc_Mem) =>
nc_let (nc_up mi7 o 8 ((mi7 o 8) + 1)) (fun (mi8 : nc_Mem) =>
some (mi8, (mi8 o 8))))))
else (
k2))))
else (
Option.bind (f_X7_refuse mi o (-4)) (fun (q9 : nc_Mem × Int32) =>
some (q9.1, q9.2)))
def B_X7_firstBadInLine_4 (mi : nc_Mem) (o : Nat) (k1 : Option (Int32)) (rc5 : Int32 → Int32 → Option (Int32)) (x3 : Int32) (x4 : Int32) : Option (Int32) :=
if (mi (o + 1) 6) ≤ x4 then (
k1)
else (
if (mi o 8) ≤ x4 then (
k1)
else (
nc_at x4 6 (fun (j8 : Nat) =>
nc_let ((mi (o + 80) j8)) (fun (x9 : Int32) =>
if x9 = 9 then (
nc_let (x4 + 1) (fun (x17 : Int32) =>
rc5 x3 x17))
else (
if (f_X5_isPerson mi (o + 1) x9) = 0 then (
some x4)
else (
if ((x3 >>> (x9 &&& 31)) &&& 1) = 0 then (
Option.bind (f_X5_roundMinute mi (o + 1) x9 x4) (fun (q13 : Int32) =>
if q13 = (-9) then (
some x4)
else (
nc_let ((x3 ||| ((1 : Int32) <<< (x9 &&& 31)))) (fun (x15 : Int32) =>
nc_let (x4 + 1) (fun (x16 : Int32) =>
rc5 x15 x16)))))
else (
some x4)))))))
def f_X7_firstBadInLine (mi : nc_Mem) (o : Nat) : Option (Int32) :=
nc_let (if (mi o 8) = (mi (o + 1) 6) then (
some (-9))
else (
some (if (mi (o + 1) 6) < (mi o 8) then (mi (o + 1) 6) else (mi o 8)))) (fun (k1 : Option (Int32)) =>
nc_loop (fun _ _ => none) (B_X7_firstBadInLine_4 mi o k1) 200 0 0)
def f_X7_judge (mi : nc_Mem) (o : Nat) : Option (nc_Mem × Int32) :=
Option.bind (f_X7_firstBadInLine mi o) (fun (q1 : Int32) =>
nc_let (nc_up mi o 8 0) (fun (mi2 : nc_Mem) =>
some (mi2, q1)))
def f_X7_image (mi : nc_Mem) (o : Nat) : Option (nc_Mem × Int32) :=
Option.bind (f_X5_becomeLike mi (o + 35) (o + 1)) (fun (q1 : nc_Mem) =>
nc_let (nc_up q1 o 9 1) (fun (mi2 : nc_Mem) =>
some (mi2, (mi2 (o + 1) 6))))
def f_X7_on (mi : nc_Mem) (o : Nat) : Option (nc_Mem × Int32) :=
if (mi o 9) = 0 then (
Option.bind (f_X7_refuse mi o (-3)) (fun (q3 : nc_Mem × Int32) =>
some (q3.1, q3.2)))
else (
Option.bind (f_X5_becomeLike mi (o + 1) (o + 35)) (fun (q2 : nc_Mem) =>
some (q2, (q2 (o + 1) 6))))
def B_X5_carriedThings_4 (mi : nc_Mem) (o : Nat) (rc3 : Int32 → Int32 → Option (Int32)) (x1 : Int32) (x2 : Int32) : Option (Int32) :=
if (mi o 6) ≤ x2 then (
some x1)
else (
nc_at x2 6 (fun (j5 : Nat) =>
if (mi (o + 11 + j5) 7) < 10 then (
nc_let (x2 + 1) (fun (x7 : Int32) =>
rc3 x1 x7))
else (
nc_let (x1 + 1) (fun (x8 : Int32) =>
nc_let (x2 + 1) (fun (x9 : Int32) =>
rc3 x8 x9)))))
def f_X5_carriedThings (mi : nc_Mem) (o : Nat) : Option (Int32) :=
nc_loop (fun _ _ => none) (B_X5_carriedThings_4 mi o) 200 0 0
def f_X7_count (mi : nc_Mem) (o : Nat) (a1 : Int32) : Option (Int32) :=
nc_let (if a1 = 0 then (
some (mi (o + 1) 4))
else (
if a1 = 1 then (
some (mi (o + 1) 5))
else (
if a1 = 2 then (
some (mi (o + 1) 6))
else (
if a1 = 3 then (
Option.bind (f_X5_carriedThings mi (o + 1)) (fun (q6 : Int32) =>
some q6))
else (
if a1 = 4 then (
some (mi o 8))
else (
if a1 = 5 then (
some (mi (o + 52) 2))
else (
some (-9)))))))) (fun (k1 : Option (Int32)) =>
if a1 ≤ 10 then (
k1)
else (
if (10 + 7) ≤ a1 then (
k1)
else (
nc_at (a1 - 10) 7 (fun (j11 : Nat) =>
some (mi (o + 81) j11)))))
