def jd_lowestOneBit (x0 : Int32) : Option Int32 :=
    some (x0 &&& (-x0))
def jd_numberOfTrailingZeros_b74 (x0 : Int32) (x1 : Int32) : Option Int32 :=
    some (x1 + (dl_ush x0 (1 : Int32)))
def jd_numberOfTrailingZeros_b62 (x0 : Int32) (x1 : Int32) : Option Int32 :=
    if x0 ≤ (4 : Int32) then (
    jd_numberOfTrailingZeros_b74 x0 x1)
    else (
    dl_nm (x1 + 2) fun v1 =>
    dl_nm (dl_ush x0 (2 : Int32)) fun v2 =>
    jd_numberOfTrailingZeros_b74 v2 v1)
def jd_numberOfTrailingZeros_b49 (x0 : Int32) (x1 : Int32) : Option Int32 :=
    if x0 ≤ (16 : Int32) then (
    jd_numberOfTrailingZeros_b62 x0 x1)
    else (
    dl_nm (x1 + 4) fun v1 =>
    dl_nm (dl_ush x0 (4 : Int32)) fun v2 =>
    jd_numberOfTrailingZeros_b62 v2 v1)
def jd_numberOfTrailingZeros_b34 (x0 : Int32) (x1 : Int32) : Option Int32 :=
    if x0 ≤ (256 : Int32) then (
    jd_numberOfTrailingZeros_b49 x0 x1)
    else (
    dl_nm (x1 + 8) fun v1 =>
    dl_nm (dl_ush x0 (8 : Int32)) fun v2 =>
    jd_numberOfTrailingZeros_b49 v2 v1)
def jd_numberOfTrailingZeros (x0 : Int32) : Option Int32 :=
    dl_nm ((x0 ^^^ (-1 : Int32)) &&& (x0 - (1 : Int32))) fun v1 =>
    if 0 < v1 then (
    dl_nm (1 : Int32) fun v2 =>
    if v1 ≤ (65536 : Int32) then (
    jd_numberOfTrailingZeros_b34 v1 v2)
    else (
    dl_nm (v2 + 16) fun v3 =>
    dl_nm (dl_ush v1 (16 : Int32)) fun v4 =>
    jd_numberOfTrailingZeros_b34 v4 v3))
    else (
    some (v1 &&& (32 : Int32)))
def jd_bitCount (x0 : Int32) : Option Int32 :=
    dl_nm (x0 - ((dl_ush x0 (1 : Int32)) &&& (1431655765 : Int32))) fun v1 =>
    dl_nm ((v1 &&& (858993459 : Int32)) + ((dl_ush v1 (2 : Int32)) &&& (858993459 : Int32))) fun v2 =>
    dl_nm ((v2 + (dl_ush v2 (4 : Int32))) &&& (252645135 : Int32)) fun v3 =>
    dl_nm (v3 + (dl_ush v3 (8 : Int32))) fun v4 =>
    dl_nm (v4 + (dl_ush v4 (16 : Int32))) fun v5 =>
    some (v5 &&& (63 : Int32))
def cl11_bitAt (x0 : Int32) (x1 : Int32) : Option Int32 :=
    some ((x0 >>> (x1 &&& 31)) &&& (1 : Int32))
def cl11_isAmount (x0 : Int32) : Option Int32 :=
    if x0 < (1 : Int32) then (
    some (0 : Int32))
    else (
    if (100 : Int32) < x0 then (
    some (0 : Int32))
    else (
    some (1 : Int32)))
def cl11_isMap (x0 : Int32) : Option Int32 :=
    if x0 < 0 then (
    some (0 : Int32))
    else (
    if (5 : Int32) ≤ x0 then (
    some (0 : Int32))
    else (
    some (1 : Int32)))
def cl11_hasWorth_b10 : Option Int32 :=
    some (1 : Int32)
def cl11_hasWorth (x0 : Int32) : Option Int32 :=
    if x0 = (2 : Int32) then (
    cl11_hasWorth_b10 )
    else (
    if x0 = (4 : Int32) then (
    cl11_hasWorth_b10 )
    else (
    some (0 : Int32)))
def cl5_ran (g : dl_Sg) (x1 : Int32) : Option dl_Sg :=
    if (50 : Int32) ≤ (g 6 1) then (
    some g)
    else (
    dl_gd (dl_in (g 6 1) 50) (dl_nm (dl_wr g 27 (g 6 1) x1) fun g1 =>
    dl_nm (dl_s2 g1 6 1 ((g1 6 1) + (1 : Int32))) fun g2 =>
    some g2))
def cl5_bodyAt (g : dl_Sg) (x1 : Int32) : Option Int32 :=
    if x1 < 0 then (
    some (-1 : Int32))
    else (
    if (g 6 1) ≤ x1 then (
    some (-1 : Int32))
    else (
    dl_gd (dl_in x1 50) (
    some (g 27 x1.toNatClampNeg))))
def cl1_refusal (g : dl_Sg) (x1 : Int32) (x2 : Int32) (x3 : Int32) (x4 : Int32) : Option Int32 :=
    dl_gd (dl_in x1 5) (
    if (g 25 x1.toNatClampNeg) = (-1 : Int32) then (
    some (10 : Int32))
    else (
    dl_gd (dl_in x1 5) (
    if (g 25 x1.toNatClampNeg) = x2 then (
    if x3 < 0 then (
    some (12 : Int32))
    else (
    if x4 < 0 then (
    some (12 : Int32))
    else (
    dl_gd (dl_in x1 5) (
    if x3 ≤ ((g 26 x1.toNatClampNeg) - x4) then (
    some (0 : Int32))
    else (
    some (12 : Int32))))))
    else (
    some (11 : Int32)))))
def cl2_hasPlace (g : dl_Sg) (x1 : Int32) : Option Int32 :=
    if x1 < 0 then (
    some (0 : Int32))
    else (
    if (g 1 10) ≤ x1 then (
    some (0 : Int32))
    else (
    some (1 : Int32)))
def cl2_hasStreet (g : dl_Sg) (x1 : Int32) : Option Int32 :=
    if x1 < 0 then (
    some (0 : Int32))
    else (
    if (g 1 11) ≤ x1 then (
    some (0 : Int32))
    else (
    some (1 : Int32)))
def cl2_isThere (g : dl_Sg) (x1 : Int32) : Option Int32 :=
    dl_bi (cl11_bitAt (g 1 14) x1) fun r1 =>
    if r1 = (1 : Int32) then (
    some (1 : Int32))
    else (
    some (0 : Int32))
def cl2_isTap (g : dl_Sg) (x1 : Int32) : Option Int32 :=
    dl_bi (cl11_bitAt (g 1 12) x1) fun r1 =>
    if r1 = (1 : Int32) then (
    some (1 : Int32))
    else (
    some (0 : Int32))
def cl2_streetsAt (g : dl_Sg) (x1 : Int32) : Option Int32 :=
    dl_gd (dl_in x1 10) (
    dl_bi (jd_bitCount (g 12 x1.toNatClampNeg)) fun r1 =>
    some r1)
def cl2_mayJoin (g : dl_Sg) (x1 : Int32) (x2 : Int32) (x3 : Int32) : Option Int32 :=
    dl_bi (cl2_hasPlace g x1) fun r1 =>
    if r1 = 0 then (
    some (0 : Int32))
    else (
    dl_bi (cl2_hasPlace g x2) fun r2 =>
    if r2 = 0 then (
    some (0 : Int32))
    else (
    if x1 = x2 then (
    some (0 : Int32))
    else (
    dl_bi (cl11_isAmount x3) fun r3 =>
    if r3 = 0 then (
    some (0 : Int32))
    else (
    some (1 : Int32)))))
def cl2_open (g : dl_Sg) (x1 : Int32) : Option dl_Sg :=
    dl_nm (dl_s2 g 1 14 ((g 1 14) ||| ((1 : Int32) <<< (x1 &&& 31)))) fun g1 =>
    dl_gd (dl_in x1 16) (
    dl_gd (dl_in (g1 13 x1.toNatClampNeg) 10) (
    dl_gd (dl_in (g1 13 x1.toNatClampNeg) 10) (dl_nm (dl_wr g1 12 (g1 13 x1.toNatClampNeg) ((g1 12 (g1 13 x1.toNatClampNeg).toNatClampNeg) ||| ((1 : Int32) <<< (x1 &&& 31)))) fun g2 =>
    dl_gd (dl_in x1 16) (
    dl_gd (dl_in (g2 14 x1.toNatClampNeg) 10) (
    dl_gd (dl_in (g2 14 x1.toNatClampNeg) 10) (dl_nm (dl_wr g2 12 (g2 14 x1.toNatClampNeg) ((g2 12 (g2 14 x1.toNatClampNeg).toNatClampNeg) ||| ((1 : Int32) <<< (x1 &&& 31)))) fun g3 =>
    some g3))))))
def cl2_close (g : dl_Sg) (x1 : Int32) : Option dl_Sg :=
    dl_nm (dl_s2 g 1 14 ((g 1 14) &&& (((1 : Int32) <<< (x1 &&& 31)) ^^^ (-1 : Int32)))) fun g1 =>
    dl_gd (dl_in x1 16) (
    dl_gd (dl_in (g1 13 x1.toNatClampNeg) 10) (
    dl_gd (dl_in (g1 13 x1.toNatClampNeg) 10) (dl_nm (dl_wr g1 12 (g1 13 x1.toNatClampNeg) ((g1 12 (g1 13 x1.toNatClampNeg).toNatClampNeg) &&& (((1 : Int32) <<< (x1 &&& 31)) ^^^ (-1 : Int32)))) fun g2 =>
    dl_gd (dl_in x1 16) (
    dl_gd (dl_in (g2 14 x1.toNatClampNeg) 10) (
    dl_gd (dl_in (g2 14 x1.toNatClampNeg) 10) (dl_nm (dl_wr g2 12 (g2 14 x1.toNatClampNeg) ((g2 12 (g2 14 x1.toNatClampNeg).toNatClampNeg) &&& (((1 : Int32) <<< (x1 &&& 31)) ^^^ (-1 : Int32)))) fun g3 =>
    some g3))))))
def cl2_note_b30 (x1 : Int32) (g : dl_Sg) : Option dl_Sg :=
    dl_gd (dl_in (g 1 16) 10) (dl_nm (dl_wr g 17 (g 1 16) x1) fun g1 =>
    dl_nm (dl_s2 g1 1 16 ((g1 1 16) + (1 : Int32))) fun g2 =>
    dl_nm (dl_s2 g2 1 17 ((g2 1 17) + (1 : Int32))) fun g3 =>
    some g3)
def cl2_note (g : dl_Sg) (x1 : Int32) : Option dl_Sg :=
    if (g 1 16) < (10 : Int32) then (
    cl2_note_b30 x1 g)
    else (
    dl_gd (dl_cok (1 : Int32) (0 : Int32) (9 : Int32) 10 10) (dl_nm (dl_cp g 17 (1 : Int32).toNatClampNeg (0 : Int32).toNatClampNeg (9 : Int32).toNatClampNeg) fun g1 =>
    dl_nm (dl_s2 g1 1 16 (9 : Int32)) fun g2 =>
    cl2_note_b30 x1 g2))
def cl2_addStreet (g : dl_Sg) (x1 : Int32) (x2 : Int32) (x3 : Int32) : Option (Int32 × dl_Sg) :=
    dl_nm (g 1 11) fun v1 =>
    dl_gd (dl_in v1 16) (dl_nm (dl_wr g 13 v1 x1) fun g2 =>
    dl_gd (dl_in v1 16) (dl_nm (dl_wr g2 14 v1 x2) fun g3 =>
    dl_gd (dl_in v1 16) (dl_nm (dl_wr g3 15 v1 x3) fun g4 =>
    dl_gd (dl_in v1 16) (dl_nm (dl_wr g4 16 v1 (((1 : Int32) <<< (x1 &&& 31)) ||| ((1 : Int32) <<< (x2 &&& 31)))) fun g5 =>
    dl_bi (cl2_open g5 v1) fun g6 =>
    dl_nm (dl_s2 g6 1 11 ((g6 1 11) + (1 : Int32))) fun g7 =>
    dl_bi (cl2_note g7 (-2 : Int32)) fun g8 =>
    some (v1, g8)))))
def cl2_dropStreet (g : dl_Sg) (x1 : Int32) : Option dl_Sg :=
    dl_bi (cl2_close g x1) fun g1 =>
    dl_nm (dl_s2 g1 1 15 ((g1 1 15) &&& (((1 : Int32) <<< (x1 &&& 31)) ^^^ (-1 : Int32)))) fun g2 =>
    dl_bi (cl2_note g2 x1) fun g3 =>
    some g3
def cl8_sumBy_b18 (g : dl_Sg) (x1 : Int32) (x2 : Int32) (y0 : Int32) : Option Int32 :=
    dl_nm y0 fun v1 =>
    dl_gd (dl_in x1 16) (
    dl_gd (dl_in x2 10) (
    some (((g 15 x1.toNatClampNeg) + v1) + (g 18 x2.toNatClampNeg))))
def cl8_sumBy (g : dl_Sg) (x1 : Int32) (x2 : Int32) (x3 : Int32) : Option Int32 :=
    if x2 = x3 then (
    cl8_sumBy_b18 g x1 x2 (0 : Int32))
    else (
    dl_gd (dl_in x2 10) (
    cl8_sumBy_b18 g x1 x2 (g 10 x2.toNatClampNeg)))
def cl8_shorten (g : dl_Sg) (x1 : Int32) (x2 : Int32) (x3 : Int32) (x4 : Int32) : Option (Int32 × dl_Sg) :=
    dl_bi (cl8_sumBy g x2 x3 x4) fun r1 =>
    dl_nm r1 fun v2 =>
    dl_gd (dl_in x1 10) (
    if v2 < (g 18 x1.toNatClampNeg) then (
    dl_gd (dl_in x1 10) (dl_nm (dl_wr g 18 x1 v2) fun g3 =>
    some ((1 : Int32), g3)))
    else (
    some ((0 : Int32), g)))
def cl8_measure_b137 (N : Nat) (k20 : Int32 → Int32 → Int32 → dl_Sg → Option dl_Sg) (k35 : Int32 → Int32 → Int32 → Int32 → dl_Sg → Option dl_Sg) (x1 : Int32) (x2 : Int32) (x3 : Int32) (x4 : Int32) (g : dl_Sg) : Option dl_Sg :=
    dl_nm (x4 + 1) fun v1 =>
    k35 x1 x2 x3 v1 g
def cl8_measure_b136 (N : Nat) (k20 : Int32 → Int32 → Int32 → dl_Sg → Option dl_Sg) (k35 : Int32 → Int32 → Int32 → Int32 → dl_Sg → Option dl_Sg) (x1 : Int32) (x3 : Int32) (x4 : Int32) (y0 : Int32) (g : dl_Sg) : Option dl_Sg :=
    dl_nm y0 fun v1 =>
    cl8_measure_b137 N k20 k35 x1 v1 x3 x4 g
def cl8_measure_b131 (N : Nat) (k20 : Int32 → Int32 → Int32 → dl_Sg → Option dl_Sg) (k35 : Int32 → Int32 → Int32 → Int32 → dl_Sg → Option dl_Sg) (x1 : Int32) (x3 : Int32) (x4 : Int32) (g : dl_Sg) : Option dl_Sg :=
    cl8_measure_b136 N k20 k35 x1 x3 x4 (1 : Int32) g
def cl8_measure_b35 (N : Nat) (k20 : Int32 → Int32 → Int32 → dl_Sg → Option dl_Sg) : Nat → Int32 → Int32 → Int32 → Int32 → dl_Sg → Option dl_Sg
  | 0, _, _, _, _, _ => none
  | n + 1, x1, x2, x3, x4, g =>
    if (g 1 11) ≤ x4 then (
    dl_nm (x3 + 1) fun v1 =>
    k20 x1 x2 v1 g)
    else (
    dl_bi (cl2_isThere g x4) fun r2 =>
    if r2 = 0 then (
    cl8_measure_b137 N k20 (cl8_measure_b35 N k20 n) x1 x2 x3 x4 g)
    else (
    dl_gd (dl_in x4 16) (
    dl_gd (dl_in x4 16) (
    dl_b2 (cl8_shorten g (g 13 x4.toNatClampNeg) x4 (g 14 x4.toNatClampNeg) x1) fun r3 g4 =>
    dl_nm r3 fun v5 =>
    dl_gd (dl_in x4 16) (
    dl_gd (dl_in x4 16) (
    dl_b2 (cl8_shorten g4 (g4 14 x4.toNatClampNeg) x4 (g4 13 x4.toNatClampNeg) x1) fun r6 g7 =>
    dl_nm r6 fun v8 =>
    if x2 = 0 then (
    if v5 = 0 then (
    if v8 = 0 then (
    cl8_measure_b136 N k20 (cl8_measure_b35 N k20 n) x1 x3 x4 (0 : Int32) g7)
    else (
    cl8_measure_b131 N k20 (cl8_measure_b35 N k20 n) x1 x3 x4 g7))
    else (
    cl8_measure_b131 N k20 (cl8_measure_b35 N k20 n) x1 x3 x4 g7))
    else (
    cl8_measure_b131 N k20 (cl8_measure_b35 N k20 n) x1 x3 x4 g7)))))))
def cl8_measure_b20 (N : Nat) : Nat → Int32 → Int32 → Int32 → dl_Sg → Option dl_Sg
  | 0, _, _, _, _ => none
  | n + 1, x1, x2, x3, g =>
    if (10 : Int32) ≤ x3 then (
    some g)
    else (
    if x2 = 0 then (
    some g)
    else (
    dl_nm (0 : Int32) fun v1 =>
    dl_nm (0 : Int32) fun v2 =>
    cl8_measure_b35 N (cl8_measure_b20 N n) N x1 v1 x3 v2 g))
def cl8_measure (N : Nat) (g : dl_Sg) (x1 : Int32) : Option dl_Sg :=
    dl_nm (dl_fi g 18 10 (100000000 : Int32)) fun g1 =>
    dl_gd (dl_in x1 10) (dl_nm (dl_wr g1 18 x1 (0 : Int32)) fun g2 =>
    dl_nm (1 : Int32) fun v3 =>
    dl_nm (0 : Int32) fun v4 =>
    cl8_measure_b20 N N x1 v3 v4 g2)
def cl8_sumOf (N : Nat) (g : dl_Sg) (x1 : Int32) (x2 : Int32) : Option (Int32 × dl_Sg) :=
    dl_bi (cl8_measure N g x2) fun g1 =>
    dl_gd (dl_in x1 10) (
    if (100000000 : Int32) ≤ (g1 18 x1.toNatClampNeg) then (
    some ((-1000000 : Int32), g1))
    else (
    dl_gd (dl_in x1 10) (
    some (g1 18 x1.toNatClampNeg, g1))))
def cl8_nextOf_b118 (N : Nat) (g : dl_Sg) (k5 : Int32 → Int32 → Int32 → Int32 → Option Int32) (x1 : Int32) (x2 : Int32) (x3 : Int32) (x4 : Int32) : Option Int32 :=
    dl_nm (x4 + 1) fun v1 =>
    k5 x1 x2 x3 v1
def cl8_nextOf_b115 (N : Nat) (g : dl_Sg) (k5 : Int32 → Int32 → Int32 → Int32 → Option Int32) (x1 : Int32) (x2 : Int32) (x4 : Int32) (x5 : Int32) : Option Int32 :=
    dl_nm x5 fun v1 =>
    cl8_nextOf_b118 N g k5 x1 x2 v1 x4
def cl8_nextOf_b97 (N : Nat) (g : dl_Sg) (k5 : Int32 → Int32 → Int32 → Int32 → Option Int32) (x1 : Int32) (x2 : Int32) (x3 : Int32) (x4 : Int32) (x5 : Int32) (y0 : Int32) : Option Int32 :=
    dl_nm y0 fun v1 =>
    if v1 = 0 then (
    cl8_nextOf_b118 N g k5 x1 x2 x3 x4)
    else (
    if x3 = (-1 : Int32) then (
    cl8_nextOf_b115 N g k5 x1 x2 x4 x5)
    else (
    if x3 ≤ x5 then (
    cl8_nextOf_b118 N g k5 x1 x2 x3 x4)
    else (
    cl8_nextOf_b115 N g k5 x1 x2 x4 x5)))
def cl8_nextOf_b72 (N : Nat) (g : dl_Sg) (k5 : Int32 → Int32 → Int32 → Int32 → Option Int32) (x1 : Int32) (x2 : Int32) (x3 : Int32) (x4 : Int32) (y0 : Int32) : Option Int32 :=
    dl_nm y0 fun v1 =>
    dl_bi (cl8_sumBy g x4 v1 x2) fun r2 =>
    dl_gd (dl_in x1 10) (
    if r2 = (g 18 x1.toNatClampNeg) then (
    cl8_nextOf_b97 N g k5 x1 x2 x3 x4 v1 (1 : Int32))
    else (
    cl8_nextOf_b97 N g k5 x1 x2 x3 x4 v1 (0 : Int32)))
def cl8_nextOf_b5 (N : Nat) (g : dl_Sg) : Nat → Int32 → Int32 → Int32 → Int32 → Option Int32
  | 0, _, _, _, _ => none
  | n + 1, x1, x2, x3, x4 =>
    if (g 1 11) ≤ x4 then (
    some x3)
    else (
    dl_gd (dl_in x1 10) (
    dl_bi (cl11_bitAt (g 12 x1.toNatClampNeg) x4) fun r1 =>
    if r1 = (1 : Int32) then (
    dl_gd (dl_in x4 16) (
    if (g 13 x4.toNatClampNeg) = x1 then (
    dl_gd (dl_in x4 16) (
    cl8_nextOf_b72 N g (cl8_nextOf_b5 N g n) x1 x2 x3 x4 (g 14 x4.toNatClampNeg)))
    else (
    dl_gd (dl_in x4 16) (
    cl8_nextOf_b72 N g (cl8_nextOf_b5 N g n) x1 x2 x3 x4 (g 13 x4.toNatClampNeg)))))
    else (
    cl8_nextOf_b118 N g (cl8_nextOf_b5 N g n) x1 x2 x3 x4)))
def cl8_nextOf (N : Nat) (g : dl_Sg) (x1 : Int32) (x2 : Int32) : Option Int32 :=
    dl_nm (-1 : Int32) fun v1 =>
    dl_nm (0 : Int32) fun v2 =>
    cl8_nextOf_b5 N g N x1 x2 v1 v2
def cl8_placeOn_b41 (N : Nat) : Nat → Int32 → Int32 → Int32 → Int32 → dl_Sg → Option (Int32 × dl_Sg)
  | 0, _, _, _, _, _ => none
  | n + 1, x2, x3, x4, x5, g =>
    if x3 ≤ x5 then (
    some (x4, g))
    else (
    if x4 = (-1 : Int32) then (
    some (x4, g))
    else (
    dl_bi (cl8_nextOf N g x4 x2) fun r1 =>
    dl_nm r1 fun v2 =>
    dl_nm (x5 + 1) fun v3 =>
    cl8_placeOn_b41 N n x2 x3 v2 v3 g))
def cl8_placeOn (N : Nat) (g : dl_Sg) (x1 : Int32) (x2 : Int32) (x3 : Int32) : Option (Int32 × dl_Sg) :=
    if x3 < 0 then (
    some ((-1 : Int32), g))
    else (
    if x3 < (g 1 10) then (
    dl_bi (cl8_measure N g x2) fun g1 =>
    dl_gd (dl_in x1 10) (
    if (g1 18 x1.toNatClampNeg) < (100000000 : Int32) then (
    dl_nm x1 fun v2 =>
    dl_nm (0 : Int32) fun v3 =>
    cl8_placeOn_b41 N N x2 x3 v2 v3 g1)
    else (
    some ((-1 : Int32), g1))))
    else (
    some ((-1 : Int32), g)))
def cl8_comeNearer_b7 (N : Nat) : Nat → Int32 → dl_Sg → Option dl_Sg
  | 0, _, _ => none
  | n + 1, x2, g =>
    if (g 1 10) ≤ x2 then (
    some g)
    else (
    dl_gd (dl_in x2 10) (
    dl_gd (dl_in x2 10) (
    dl_gd (dl_in x2 10) (dl_nm (dl_wr g 19 x2 (if (g 18 x2.toNatClampNeg) < (g 19 x2.toNatClampNeg) then (g 18 x2.toNatClampNeg) else (g 19 x2.toNatClampNeg))) fun g1 =>
    dl_nm (x2 + 1) fun v2 =>
    cl8_comeNearer_b7 N n v2 g1))))
def cl8_comeNearer (N : Nat) (g : dl_Sg) (x1 : Int32) : Option dl_Sg :=
    dl_bi (cl8_measure N g x1) fun g1 =>
    dl_nm (0 : Int32) fun v2 =>
    cl8_comeNearer_b7 N N v2 g1
def cl8_nearestOf_b52 (N : Nat) (g : dl_Sg) (k8 : Int32 → Int32 → Int32 → Int32 → Option Int32) (x1 : Int32) (x2 : Int32) (x3 : Int32) (x4 : Int32) : Option Int32 :=
    dl_nm (x4 + 1) fun v1 =>
    k8 x1 x2 x3 v1
def cl8_nearestOf_b8 (N : Nat) (g : dl_Sg) : Nat → Int32 → Int32 → Int32 → Int32 → Option Int32
  | 0, _, _, _, _ => none
  | n + 1, x1, x2, x3, x4 =>
    if (g 1 10) ≤ x4 then (
    some x2)
    else (
    dl_bi (cl11_bitAt x1 x4) fun r1 =>
    if r1 = (1 : Int32) then (
    dl_gd (dl_in x4 10) (
    if x3 ≤ (g 19 x4.toNatClampNeg) then (
    cl8_nearestOf_b52 N g (cl8_nearestOf_b8 N g n) x1 x2 x3 x4)
    else (
    dl_nm x4 fun v2 =>
    dl_gd (dl_in x4 10) (
    dl_nm (g 19 x4.toNatClampNeg) fun v3 =>
    cl8_nearestOf_b52 N g (cl8_nearestOf_b8 N g n) x1 v2 v3 x4))))
    else (
    cl8_nearestOf_b52 N g (cl8_nearestOf_b8 N g n) x1 x2 x3 x4))
def cl8_nearestOf (N : Nat) (g : dl_Sg) (x1 : Int32) : Option Int32 :=
    dl_nm (-1 : Int32) fun v1 =>
    dl_nm (100000000 : Int32) fun v2 =>
    dl_nm (0 : Int32) fun v3 =>
    cl8_nearestOf_b8 N g N x1 v1 v2 v3
def cl8_spanOfTaps_b52 (N : Nat) : Nat → Int32 → Int32 → Int32 → Int32 → dl_Sg → Option (Int32 × dl_Sg)
  | 0, _, _, _, _, _ => none
  | n + 1, x1, x2, x3, x4, g =>
    if (10 : Int32) ≤ x4 then (
    some (x3, g))
    else (
    if x2 = 0 then (
    some (x3, g))
    else (
    dl_bi (cl8_comeNearer N g x1) fun g1 =>
    dl_bi (cl8_nearestOf N g1 x2) fun r2 =>
    dl_nm r2 fun v3 =>
    if v3 = (-1 : Int32) then (
    some ((-1000000 : Int32), g1))
    else (
    dl_gd (dl_in v3 10) (
    dl_nm (x3 + (g1 19 v3.toNatClampNeg)) fun v4 =>
    dl_nm (x2 &&& (((1 : Int32) <<< (v3 &&& 31)) ^^^ (-1 : Int32))) fun v5 =>
    dl_nm (x4 + 1) fun v6 =>
    cl8_spanOfTaps_b52 N n v3 v5 v4 v6 g1))))
def cl8_spanOfTaps (N : Nat) (g : dl_Sg) : Option (Int32 × dl_Sg) :=
    if (g 1 12) = 0 then (
    some ((-1000000 : Int32), g))
    else (
    dl_nm (dl_fi g 19 10 (100000000 : Int32)) fun g1 =>
    dl_bi (jd_numberOfTrailingZeros (g1 1 12)) fun r2 =>
    dl_nm r2 fun v3 =>
    dl_nm ((g1 1 12) &&& (((1 : Int32) <<< (v3 &&& 31)) ^^^ (-1 : Int32))) fun v4 =>
    dl_nm (0 : Int32) fun v5 =>
    dl_nm (0 : Int32) fun v6 =>
    cl8_spanOfTaps_b52 N N v3 v4 v5 v6 g1)
def cl7_isActive (g : dl_Sg) (x1 : Int32) : Option Int32 :=
    dl_gd (dl_in x1 20) (
    dl_nm (g 22 x1.toNatClampNeg) fun v1 =>
    if (v1 &&& (g 1 12)) = 0 then (
    some (0 : Int32))
    else (
    if (v1 &&& (g 4 5)) = 0 then (
    some (1 : Int32))
    else (
    some (0 : Int32))))
def cl7_someActive_b2 (N : Nat) (g : dl_Sg) : Nat → Int32 → Option Int32
  | 0, _ => none
  | n + 1, x1 =>
    if (g 1 10) ≤ x1 then (
    some (0 : Int32))
    else (
    dl_gd (dl_in x1 10) (
    dl_bi (cl7_isActive g (g 24 x1.toNatClampNeg)) fun r1 =>
    if r1 = 0 then (
    dl_nm (x1 + 1) fun v2 =>
    cl7_someActive_b2 N g n v2)
    else (
    some (1 : Int32))))
def cl7_someActive (N : Nat) (g : dl_Sg) : Option Int32 :=
    dl_nm (0 : Int32) fun v1 =>
    cl7_someActive_b2 N g N v1
def cl7_activeSidesOf_b61 (g : dl_Sg) (x3 : Int32) (y0 : Int32) : Option Int32 :=
    dl_bi (cl7_isActive g x3) fun r1 =>
    if r1 = 0 then (
    some (y0 + (0 : Int32)))
    else (
    some (y0 + (1 : Int32)))
def cl7_activeSidesOf (g : dl_Sg) (x1 : Int32) : Option Int32 :=
    dl_gd (dl_in x1 16) (
    dl_gd (dl_in (g 13 x1.toNatClampNeg) 10) (
    dl_nm (g 24 (g 13 x1.toNatClampNeg).toNatClampNeg) fun v1 =>
    dl_gd (dl_in x1 16) (
    dl_gd (dl_in (g 14 x1.toNatClampNeg) 10) (
    dl_nm (g 24 (g 14 x1.toNatClampNeg).toNatClampNeg) fun v2 =>
    dl_bi (cl2_isThere g x1) fun r3 =>
    if r3 = 0 then (
    some (0 : Int32))
    else (
    if v1 = v2 then (
    some (0 : Int32))
    else (
    dl_bi (cl7_isActive g v1) fun r4 =>
    if r4 = 0 then (
    cl7_activeSidesOf_b61 g v2 (0 : Int32))
    else (
    cl7_activeSidesOf_b61 g v2 (1 : Int32))))))))
def cl7_roomOf_b56 (N : Nat) (g : dl_Sg) (k16 : Int32 → Int32 → Int32 → Option Int32) (x1 : Int32) (x2 : Int32) (x3 : Int32) : Option Int32 :=
    dl_nm (x3 + 1) fun v1 =>
    k16 x1 x2 v1
def cl7_roomOf_b16 (N : Nat) (g : dl_Sg) : Nat → Int32 → Int32 → Int32 → Option Int32
  | 0, _, _, _ => none
  | n + 1, x1, x2, x3 =>
    if (g 4 4) ≤ x3 then (
    some x2)
    else (
    dl_gd (dl_in x3 20) (
    dl_gd (dl_in x1 16) (
    dl_bi (jd_bitCount ((g 22 x3.toNatClampNeg) &&& (g 16 x1.toNatClampNeg))) fun r1 =>
    if r1 = (1 : Int32) then (
    dl_gd (dl_in x3 20) (
    dl_nm (x2 - (g 23 x3.toNatClampNeg)) fun v2 =>
    cl7_roomOf_b56 N g (cl7_roomOf_b16 N g n) x1 v2 x3))
    else (
    cl7_roomOf_b56 N g (cl7_roomOf_b16 N g n) x1 x2 x3))))
def cl7_roomOf (N : Nat) (g : dl_Sg) (x1 : Int32) : Option Int32 :=
    dl_gd (dl_in x1 16) (
    dl_nm ((1024 : Int32) * (g 15 x1.toNatClampNeg)) fun v1 =>
    dl_nm (0 : Int32) fun v2 =>
    cl7_roomOf_b16 N g N x1 v1 v2)
def cl7_addPart_b62 (N : Nat) (k32 : Int32 → Int32 → dl_Sg → Option dl_Sg) (x1 : Int32) (x2 : Int32) (g : dl_Sg) : Option dl_Sg :=
    dl_nm (x2 + 1) fun v1 =>
    k32 x1 v1 g
def cl7_addPart_b32 (N : Nat) : Nat → Int32 → Int32 → dl_Sg → Option dl_Sg
  | 0, _, _, _ => none
  | n + 1, x1, x2, g =>
    if (g 1 10) ≤ x2 then (
    dl_nm (dl_s2 g 4 4 ((g 4 4) + (1 : Int32))) fun g1 =>
    some g1)
    else (
    dl_bi (cl11_bitAt x1 x2) fun r2 =>
    if r2 = (1 : Int32) then (
    dl_gd (dl_in x2 10) (dl_nm (dl_wr g 24 x2 (g 4 4)) fun g3 =>
    cl7_addPart_b62 N (cl7_addPart_b32 N n) x1 x2 g3))
    else (
    cl7_addPart_b62 N (cl7_addPart_b32 N n) x1 x2 g))
def cl7_addPart (N : Nat) (g : dl_Sg) (x1 : Int32) : Option dl_Sg :=
    if (g 4 4) < (20 : Int32) then (
    dl_gd (dl_in (g 4 4) 20) (dl_nm (dl_wr g 22 (g 4 4) x1) fun g1 =>
    dl_gd (dl_in (g1 4 4) 20) (dl_nm (dl_wr g1 23 (g1 4 4) (0 : Int32)) fun g2 =>
    dl_nm (0 : Int32) fun v3 =>
    cl7_addPart_b32 N N x1 v3 g2)))
    else (
    some g)
def cl7_startParts_b7 (N : Nat) : Nat → Int32 → dl_Sg → Option dl_Sg
  | 0, _, _ => none
  | n + 1, x1, g =>
    if (g 1 10) ≤ x1 then (
    some g)
    else (
    dl_bi (cl7_addPart N g ((1 : Int32) <<< (x1 &&& 31))) fun g1 =>
    dl_nm (x1 + 1) fun v2 =>
    cl7_startParts_b7 N n v2 g1)
def cl7_startParts (N : Nat) (g : dl_Sg) : Option dl_Sg :=
    dl_nm (dl_s2 g 4 4 (0 : Int32)) fun g1 =>
    dl_nm (0 : Int32) fun v2 =>
    cl7_startParts_b7 N N v2 g1
def cl7_growActive_b56 (N : Nat) (k2 : Int32 → Int32 → dl_Sg → Option dl_Sg) (x1 : Int32) (x2 : Int32) (g : dl_Sg) : Option dl_Sg :=
    dl_nm (x2 + 1) fun v1 =>
    k2 x1 v1 g
def cl7_growActive_b33 (N : Nat) (k2 : Int32 → Int32 → dl_Sg → Option dl_Sg) (x1 : Int32) (x2 : Int32) (y0 : Int32) (g : dl_Sg) : Option dl_Sg :=
    dl_nm y0 fun v1 =>
    if v1 = 0 then (
    cl7_growActive_b56 N k2 x1 x2 g)
    else (
    dl_bi (cl7_isActive g x2) fun r2 =>
    if r2 = 0 then (
    cl7_growActive_b56 N k2 x1 x2 g)
    else (
    dl_gd (dl_in x2 20) (
    dl_gd (dl_in x2 20) (dl_nm (dl_wr g 23 x2 ((g 23 x2.toNatClampNeg) + x1)) fun g3 =>
    cl7_growActive_b56 N k2 x1 x2 g3))))
def cl7_growActive_b2 (N : Nat) : Nat → Int32 → Int32 → dl_Sg → Option dl_Sg
  | 0, _, _, _ => none
  | n + 1, x1, x2, g =>
    if (g 4 4) ≤ x2 then (
    some g)
    else (
    dl_gd (dl_in x2 20) (
    dl_bi (jd_numberOfTrailingZeros (g 22 x2.toNatClampNeg)) fun r1 =>
    dl_gd (dl_in r1 10) (
    if (g 24 r1.toNatClampNeg) = x2 then (
    cl7_growActive_b33 N (cl7_growActive_b2 N n) x1 x2 (1 : Int32) g)
    else (
    cl7_growActive_b33 N (cl7_growActive_b2 N n) x1 x2 (0 : Int32) g))))
def cl7_growActive (N : Nat) (g : dl_Sg) (x1 : Int32) : Option dl_Sg :=
    dl_nm (0 : Int32) fun v1 =>
    cl7_growActive_b2 N N x1 v1 g
def cl7_goOn_b92 (N : Nat) (k5 : Int32 → Int32 → dl_Sg → Option dl_Sg) (x1 : Int32) (x2 : Int32) (g : dl_Sg) : Option dl_Sg :=
    dl_nm (x2 + 1) fun v1 =>
    k5 x1 v1 g
def cl7_goOn_b5 (N : Nat) : Nat → Int32 → Int32 → dl_Sg → Option dl_Sg
  | 0, _, _, _ => none
  | n + 1, x1, x2, g =>
    if (g 1 11) ≤ x2 then (
    if x1 = (100000000 : Int32) then (
    dl_nm (dl_s2 g 4 6 (-2 : Int32)) fun g1 =>
    some g1)
    else (
    dl_bi (cl7_growActive N g x1) fun g2 =>
    some g2))
    else (
    dl_bi (cl7_activeSidesOf g x2) fun r4 =>
    dl_nm r4 fun v5 =>
    if v5 ≤ 0 then (
    cl7_goOn_b92 N (cl7_goOn_b5 N n) x1 x2 g)
    else (
    dl_bi (cl7_roomOf N g x2) fun r6 =>
    dl_nm r6 fun v7 =>
    if v5 ≤ v7 then (
    dl_gd (dl_ne0 v5) (
    dl_nm (if (v7 / v5) < x1 then (v7 / v5) else x1) fun v8 =>
    cl7_goOn_b92 N (cl7_goOn_b5 N n) v8 x2 g))
    else (
    dl_gd (dl_in x2 16) (
    dl_gd (dl_in (g 13 x2.toNatClampNeg) 10) (
    dl_gd (dl_in (g 24 (g 13 x2.toNatClampNeg).toNatClampNeg) 20) (
    dl_gd (dl_in x2 16) (
    dl_gd (dl_in (g 14 x2.toNatClampNeg) 10) (
    dl_gd (dl_in (g 24 (g 14 x2.toNatClampNeg).toNatClampNeg) 20) (
    dl_bi (cl7_addPart N g ((g 22 (g 24 (g 13 x2.toNatClampNeg).toNatClampNeg).toNatClampNeg) ||| (g 22 (g 24 (g 14 x2.toNatClampNeg).toNatClampNeg).toNatClampNeg))) fun g9 =>
    some g9)))))))))
def cl7_goOn (N : Nat) (g : dl_Sg) : Option dl_Sg :=
    dl_nm (100000000 : Int32) fun v1 =>
    dl_nm (0 : Int32) fun v2 =>
    cl7_goOn_b5 N N v1 v2 g
def cl7_refresh_b90 (N : Nat) : Nat → Int32 → dl_Sg → Option dl_Sg
  | 0, _, _ => none
  | n + 1, x1, g =>
    if (40 : Int32) ≤ x1 then (
    some g)
    else (
    if (g 4 6) = 0 then (
    dl_bi (cl7_someActive N g) fun r1 =>
    if r1 = 0 then (
    some g)
    else (
    dl_bi (cl7_goOn N g) fun g2 =>
    dl_nm (x1 + 1) fun v3 =>
    cl7_refresh_b90 N n v3 g2))
    else (
    some g))
def cl7_refresh_b76 (N : Nat) (y1 : Int32) (g : dl_Sg) : Option dl_Sg :=
    dl_nm (dl_s2 g 4 5 y1) fun g1 =>
    dl_bi (cl7_startParts N g1) fun g2 =>
    dl_nm (dl_s2 g2 4 6 (0 : Int32)) fun g3 =>
    dl_nm (0 : Int32) fun v4 =>
    cl7_refresh_b90 N N v4 g3
def cl7_refresh (N : Nat) (g : dl_Sg) : Option dl_Sg :=
    if (g 4 7) = (g 1 17) then (
    some g)
    else (
    dl_nm (dl_s2 g 4 7 (g 1 17)) fun g1 =>
    if (g1 1 12) = 0 then (
    dl_nm (dl_s2 g1 4 6 (-1 : Int32)) fun g2 =>
    some g2)
    else (
    if (g1 1 13) = (-1 : Int32) then (
    dl_bi (jd_lowestOneBit (g1 1 12)) fun r3 =>
    cl7_refresh_b76 N r3 g1)
    else (
    cl7_refresh_b76 N ((1 : Int32) <<< ((g1 1 13) &&& 31)) g1)))
def cl7_howMany_b40 (N : Nat) (k20 : Int32 → Int32 → dl_Sg → Option (Int32 × dl_Sg)) (x1 : Int32) (x2 : Int32) (g : dl_Sg) : Option (Int32 × dl_Sg) :=
    dl_nm (x2 + 1) fun v1 =>
    k20 x1 v1 g
def cl7_howMany_b20 (N : Nat) : Nat → Int32 → Int32 → dl_Sg → Option (Int32 × dl_Sg)
  | 0, _, _, _ => none
  | n + 1, x1, x2, g =>
    if (g 4 4) ≤ x2 then (
    some (x1, g))
    else (
    dl_gd (dl_in x2 20) (
    if (g 23 x2.toNatClampNeg) ≤ 0 then (
    cl7_howMany_b40 N (cl7_howMany_b20 N n) x1 x2 g)
    else (
    dl_nm (x1 + 1) fun v1 =>
    cl7_howMany_b40 N (cl7_howMany_b20 N n) v1 x2 g)))
def cl7_howMany (N : Nat) (g : dl_Sg) : Option (Int32 × dl_Sg) :=
    dl_bi (cl7_refresh N g) fun g1 =>
    if (g1 4 6) = 0 then (
    dl_nm (0 : Int32) fun v2 =>
    dl_nm (0 : Int32) fun v3 =>
    cl7_howMany_b20 N N v2 v3 g1)
    else (
    some (g1 4 6, g1))
def cl7_toldOf_b76 (N : Nat) (k27 : Int32 → Int32 → Int32 → Int32 → dl_Sg → Option (Int32 × dl_Sg)) (x1 : Int32) (x2 : Int32) (x3 : Int32) (x4 : Int32) (g : dl_Sg) : Option (Int32 × dl_Sg) :=
    dl_nm (x4 + 1) fun v1 =>
    k27 x1 x2 x3 v1 g
def cl7_toldOf_b27 (N : Nat) : Nat → Int32 → Int32 → Int32 → Int32 → dl_Sg → Option (Int32 × dl_Sg)
  | 0, _, _, _, _, _ => none
  | n + 1, x1, x2, x3, x4, g =>
    if (g 4 4) ≤ x4 then (
    some ((-1 : Int32), g))
    else (
    dl_gd (dl_in x4 20) (
    if (g 23 x4.toNatClampNeg) ≤ 0 then (
    cl7_toldOf_b76 N (cl7_toldOf_b27 N n) x1 x2 x3 x4 g)
    else (
    if x3 = x1 then (
    if x2 = 0 then (
    dl_gd (dl_in x4 20) (
    some (g 22 x4.toNatClampNeg, g)))
    else (
    dl_gd (dl_in x4 20) (
    some (g 23 x4.toNatClampNeg, g))))
    else (
    dl_nm (x3 + 1) fun v2 =>
    cl7_toldOf_b76 N (cl7_toldOf_b27 N n) x1 x2 v2 x4 g))))
def cl7_toldOf (N : Nat) (g : dl_Sg) (x1 : Int32) (x2 : Int32) : Option (Int32 × dl_Sg) :=
    dl_bi (cl7_refresh N g) fun g1 =>
    if (g1 4 6) = 0 then (
    if x2 < 0 then (
    some ((-1 : Int32), g1))
    else (
    if x2 ≤ (1 : Int32) then (
    dl_nm (0 : Int32) fun v2 =>
    dl_nm (0 : Int32) fun v3 =>
    cl7_toldOf_b27 N N x1 x2 v2 v3 g1)
    else (
    some ((-1 : Int32), g1))))
    else (
    some ((-1 : Int32), g1))
def cl7_sumOfShares_b18 (N : Nat) : Nat → Int32 → Int32 → dl_Sg → Option (Int32 × dl_Sg)
  | 0, _, _, _ => none
  | n + 1, x1, x2, g =>
    if (g 4 4) ≤ x2 then (
    some (x1, g))
    else (
    dl_gd (dl_in x2 20) (
    dl_nm (x1 + (g 23 x2.toNatClampNeg)) fun v1 =>
    dl_nm (x2 + 1) fun v2 =>
    cl7_sumOfShares_b18 N n v1 v2 g))
def cl7_sumOfShares (N : Nat) (g : dl_Sg) : Option (Int32 × dl_Sg) :=
    dl_bi (cl7_refresh N g) fun g1 =>
    if (g1 4 6) = 0 then (
    dl_nm (0 : Int32) fun v2 =>
    dl_nm (0 : Int32) fun v3 =>
    cl7_sumOfShares_b18 N N v2 v3 g1)
    else (
    some ((-1000000 : Int32), g1))
def cl6_joinGroups_b29 (N : Nat) (k2 : Int32 → Int32 → dl_Sg → Option dl_Sg) (x1 : Int32) (x2 : Int32) (g : dl_Sg) : Option dl_Sg :=
    dl_nm (x2 + 1) fun v1 =>
    k2 x1 v1 g
def cl6_joinGroups_b2 (N : Nat) : Nat → Int32 → Int32 → dl_Sg → Option dl_Sg
  | 0, _, _, _ => none
  | n + 1, x1, x2, g =>
    if (g 1 10) ≤ x2 then (
    some g)
    else (
    dl_bi (cl11_bitAt x1 x2) fun r1 =>
    if r1 = (1 : Int32) then (
    dl_gd (dl_in x2 10) (dl_nm (dl_wr g 20 x2 x1) fun g2 =>
    cl6_joinGroups_b29 N (cl6_joinGroups_b2 N n) x1 x2 g2))
    else (
    cl6_joinGroups_b29 N (cl6_joinGroups_b2 N n) x1 x2 g))
def cl6_joinGroups (N : Nat) (g : dl_Sg) (x1 : Int32) : Option dl_Sg :=
    dl_nm (0 : Int32) fun v1 =>
    cl6_joinGroups_b2 N N x1 v1 g
def cl6_endsOf_b36 (N : Nat) (g : dl_Sg) (k4 : Int32 → Int32 → Int32 → Option Int32) (x1 : Int32) (x2 : Int32) (x3 : Int32) : Option Int32 :=
    dl_nm (x3 + 1) fun v1 =>
    k4 x1 x2 v1
def cl6_endsOf_b4 (N : Nat) (g : dl_Sg) : Nat → Int32 → Int32 → Int32 → Option Int32
  | 0, _, _, _ => none
  | n + 1, x1, x2, x3 =>
    if (g 1 11) ≤ x3 then (
    some x2)
    else (
    dl_bi (cl11_bitAt x1 x3) fun r1 =>
    if r1 = (1 : Int32) then (
    dl_gd (dl_in x3 16) (
    dl_nm (x2 ||| (g 16 x3.toNatClampNeg)) fun v2 =>
    cl6_endsOf_b36 N g (cl6_endsOf_b4 N g n) x1 v2 x3))
    else (
    cl6_endsOf_b36 N g (cl6_endsOf_b4 N g n) x1 x2 x3))
def cl6_endsOf (N : Nat) (g : dl_Sg) (x1 : Int32) : Option Int32 :=
    dl_nm (0 : Int32) fun v1 =>
    dl_nm (0 : Int32) fun v2 =>
    cl6_endsOf_b4 N g N x1 v1 v2
def cl6_placesOf_b23 (g : dl_Sg) (x2 : Int32) (y0 : Int32) : Option Int32 :=
    dl_nm y0 fun v1 =>
    if v1 = 0 then (
    some x2)
    else (
    some (g 1 12))
def cl6_placesOf_b22 (g : dl_Sg) (x2 : Int32) : Option Int32 :=
    cl6_placesOf_b23 g x2 (0 : Int32)
def cl6_placesOf (g : dl_Sg) (x1 : Int32) (x2 : Int32) : Option Int32 :=
    if x1 = 0 then (
    dl_bi (jd_bitCount (g 1 12)) fun r1 =>
    if r1 = (1 : Int32) then (
    cl6_placesOf_b23 g x2 (1 : Int32))
    else (
    cl6_placesOf_b22 g x2))
    else (
    cl6_placesOf_b22 g x2)
def cl6_flawOf_b161 (N : Nat) (y0 : Int32) (g : dl_Sg) : Option (Int32 × dl_Sg) :=
    dl_nm y0 fun v1 =>
    if v1 = 0 then (
    some ((3 : Int32), g))
    else (
    some ((0 : Int32), g))
def cl6_flawOf_b160 (N : Nat) (g : dl_Sg) : Option (Int32 × dl_Sg) :=
    cl6_flawOf_b161 N (0 : Int32) g
def cl6_flawOf_b127 (N : Nat) (x1 : Int32) (x3 : Int32) (g : dl_Sg) : Option (Int32 × dl_Sg) :=
    if (g 1 12) = 0 then (
    cl6_flawOf_b160 N g)
    else (
    dl_bi (cl6_placesOf g x1 x3) fun r1 =>
    if ((g 1 12) &&& (r1 ^^^ (-1 : Int32))) = 0 then (
    cl6_flawOf_b161 N (1 : Int32) g)
    else (
    cl6_flawOf_b160 N g))
def cl6_flawOf_b104 (N : Nat) (k32 : Int32 → Int32 → Int32 → dl_Sg → Option (Int32 × dl_Sg)) (x1 : Int32) (x2 : Int32) (x3 : Int32) (g : dl_Sg) : Option (Int32 × dl_Sg) :=
    dl_nm (x3 + 1) fun v1 =>
    k32 x1 x2 v1 g
def cl6_flawOf_b32 (N : Nat) : Nat → Int32 → Int32 → Int32 → dl_Sg → Option (Int32 × dl_Sg)
  | 0, _, _, _, _ => none
  | n + 1, x1, x2, x3, g =>
    if (g 1 11) ≤ x3 then (
    dl_bi (cl6_endsOf N g x1) fun r1 =>
    dl_nm r1 fun v2 =>
    if x1 = 0 then (
    cl6_flawOf_b127 N x1 v2 g)
    else (
    if x2 = v2 then (
    cl6_flawOf_b127 N x1 v2 g)
    else (
    some ((2 : Int32), g))))
    else (
    dl_bi (cl11_bitAt x1 x3) fun r5 =>
    if r5 = (1 : Int32) then (
    dl_gd (dl_in x3 16) (
    dl_gd (dl_in (g 13 x3.toNatClampNeg) 10) (
    dl_nm (g 20 (g 13 x3.toNatClampNeg).toNatClampNeg) fun v6 =>
    dl_gd (dl_in x3 16) (
    dl_gd (dl_in (g 14 x3.toNatClampNeg) 10) (
    dl_nm (g 20 (g 14 x3.toNatClampNeg).toNatClampNeg) fun v7 =>
    if v6 = v7 then (
    some ((1 : Int32), g))
    else (
    dl_nm (v6 ||| v7) fun v8 =>
    dl_bi (cl6_joinGroups N g v8) fun g9 =>
    cl6_flawOf_b104 N (cl6_flawOf_b32 N n) x1 v8 x3 g9))))))
    else (
    cl6_flawOf_b104 N (cl6_flawOf_b32 N n) x1 x2 x3 g))
def cl6_flawOf_b2 (N : Nat) : Nat → Int32 → Int32 → dl_Sg → Option (Int32 × dl_Sg)
  | 0, _, _, _ => none
  | n + 1, x1, x2, g =>
    if (g 1 10) ≤ x2 then (
    dl_nm (0 : Int32) fun v1 =>
    dl_nm (0 : Int32) fun v2 =>
    cl6_flawOf_b32 N N x1 v1 v2 g)
    else (
    dl_gd (dl_in x2 10) (dl_nm (dl_wr g 20 x2 ((1 : Int32) <<< (x2 &&& 31))) fun g3 =>
    dl_nm (x2 + 1) fun v4 =>
    cl6_flawOf_b2 N n x1 v4 g3))
def cl6_flawOf (N : Nat) (g : dl_Sg) (x1 : Int32) : Option (Int32 × dl_Sg) :=
    dl_nm (0 : Int32) fun v1 =>
    cl6_flawOf_b2 N N x1 v1 g
def cl6_tagOf_b52 (N : Nat) (g : dl_Sg) : Nat → Int32 → Int32 → Int32 → Option Int32
  | 0, _, _, _ => none
  | n + 1, x2, x3, x4 =>
    if (g 1 10) ≤ x4 then (
    some x3)
    else (
    dl_bi (cl11_bitAt x2 x4) fun r1 =>
    dl_gd (dl_in x4 10) (
    dl_gd (dl_in x4 10) (
    dl_nm (x3 + (r1 * ((g 10 x4.toNatClampNeg) - (g 11 x4.toNatClampNeg)))) fun v2 =>
    dl_nm (x4 + 1) fun v3 =>
    cl6_tagOf_b52 N g n x2 v2 v3)))
def cl6_tagOf_b11 (N : Nat) (g : dl_Sg) : Nat → Int32 → Int32 → Int32 → Int32 → Option Int32
  | 0, _, _, _, _ => none
  | n + 1, x1, x2, x3, x4 =>
    if (g 1 11) ≤ x4 then (
    dl_nm (0 : Int32) fun v1 =>
    cl6_tagOf_b52 N g N x2 x3 v1)
    else (
    dl_bi (cl11_bitAt x1 x4) fun r2 =>
    dl_gd (dl_in x4 16) (
    dl_nm (x3 + (r2 * (g 15 x4.toNatClampNeg))) fun v3 =>
    dl_nm (x4 + 1) fun v4 =>
    cl6_tagOf_b11 N g n x1 x2 v3 v4))
def cl6_tagOf (N : Nat) (g : dl_Sg) (x1 : Int32) : Option Int32 :=
    dl_bi (cl6_endsOf N g x1) fun r1 =>
    dl_nm r1 fun v2 =>
    dl_nm (0 : Int32) fun v3 =>
    dl_nm (0 : Int32) fun v4 =>
    cl6_tagOf_b11 N g N x1 v2 v3 v4
def cl6_spareStreetOf_b85 (N : Nat) (g : dl_Sg) (k2 : Int32 → Int32 → Option Int32) (x1 : Int32) (x2 : Int32) : Option Int32 :=
    dl_nm (x2 + 1) fun v1 =>
    k2 x1 v1
def cl6_spareStreetOf_b2 (N : Nat) (g : dl_Sg) : Nat → Int32 → Int32 → Option Int32
  | 0, _, _ => none
  | n + 1, x1, x2 =>
    if (g 1 10) ≤ x2 then (
    some (-1 : Int32))
    else (
    dl_gd (dl_in x2 10) (
    dl_nm ((g 12 x2.toNatClampNeg) &&& x1) fun v1 =>
    dl_bi (cl2_isTap g x2) fun r2 =>
    if r2 = 0 then (
    dl_bi (jd_bitCount v1) fun r3 =>
    if r3 = (1 : Int32) then (
    dl_bi (jd_numberOfTrailingZeros v1) fun r4 =>
    dl_nm r4 fun v5 =>
    dl_gd (dl_in v5 16) (
    dl_gd (dl_in x2 10) (
    dl_gd (dl_in x2 10) (
    if ((g 15 v5.toNatClampNeg) + (g 10 x2.toNatClampNeg)) < (g 11 x2.toNatClampNeg) then (
    cl6_spareStreetOf_b85 N g (cl6_spareStreetOf_b2 N g n) x1 x2)
    else (
    some v5)))))
    else (
    cl6_spareStreetOf_b85 N g (cl6_spareStreetOf_b2 N g n) x1 x2))
    else (
    cl6_spareStreetOf_b85 N g (cl6_spareStreetOf_b2 N g n) x1 x2)))
def cl6_spareStreetOf (N : Nat) (g : dl_Sg) (x1 : Int32) : Option Int32 :=
    dl_nm (0 : Int32) fun v1 =>
    cl6_spareStreetOf_b2 N g N x1 v1
def cl6_trimmed_b4 (N : Nat) (g : dl_Sg) : Nat → Int32 → Int32 → Option Int32
  | 0, _, _ => none
  | n + 1, x2, x3 =>
    if (16 : Int32) ≤ x3 then (
    some x2)
    else (
    dl_bi (cl6_spareStreetOf N g x2) fun r1 =>
    dl_nm r1 fun v2 =>
    if v2 = (-1 : Int32) then (
    some x2)
    else (
    dl_nm (x2 &&& (((1 : Int32) <<< (v2 &&& 31)) ^^^ (-1 : Int32))) fun v3 =>
    dl_nm (x3 + 1) fun v4 =>
    cl6_trimmed_b4 N g n v3 v4))
def cl6_trimmed (N : Nat) (g : dl_Sg) (x1 : Int32) : Option Int32 :=
    dl_nm x1 fun v1 =>
    dl_nm (0 : Int32) fun v2 =>
    cl6_trimmed_b4 N g N v1 v2
def cl6_swapped_b105 (N : Nat) (k8 : Int32 → Int32 → Int32 → dl_Sg → Option (Int32 × dl_Sg)) (x1 : Int32) (x2 : Int32) (x3 : Int32) (g : dl_Sg) : Option (Int32 × dl_Sg) :=
    dl_nm (x3 + 1) fun v1 =>
    k8 x1 x2 v1 g
def cl6_swapped_b99 (N : Nat) (k8 : Int32 → Int32 → Int32 → dl_Sg → Option (Int32 × dl_Sg)) (k41 : Int32 → Int32 → Int32 → Int32 → dl_Sg → Option (Int32 × dl_Sg)) (x1 : Int32) (x2 : Int32) (x3 : Int32) (x4 : Int32) (g : dl_Sg) : Option (Int32 × dl_Sg) :=
    dl_nm (x4 + 1) fun v1 =>
    k41 x1 x2 x3 v1 g
def cl6_swapped_b41 (N : Nat) (k8 : Int32 → Int32 → Int32 → dl_Sg → Option (Int32 × dl_Sg)) : Nat → Int32 → Int32 → Int32 → Int32 → dl_Sg → Option (Int32 × dl_Sg)
  | 0, _, _, _, _, _ => none
  | n + 1, x1, x2, x3, x4, g =>
    if (g 1 11) ≤ x4 then (
    cl6_swapped_b105 N k8 x1 x2 x3 g)
    else (
    dl_nm ((x1 &&& (((1 : Int32) <<< (x4 &&& 31)) ^^^ (-1 : Int32))) ||| ((1 : Int32) <<< (x3 &&& 31))) fun v1 =>
    dl_bi (cl11_bitAt x1 x4) fun r2 =>
    if r2 = (1 : Int32) then (
    dl_bi (cl6_tagOf N g v1) fun r3 =>
    if x2 ≤ r3 then (
    cl6_swapped_b99 N k8 (cl6_swapped_b41 N k8 n) x1 x2 x3 x4 g)
    else (
    dl_b2 (cl6_flawOf N g v1) fun r4 g5 =>
    if r4 = 0 then (
    some (v1, g5))
    else (
    cl6_swapped_b99 N k8 (cl6_swapped_b41 N k8 n) x1 x2 x3 x4 g5)))
    else (
    cl6_swapped_b99 N k8 (cl6_swapped_b41 N k8 n) x1 x2 x3 x4 g))
def cl6_swapped_b8 (N : Nat) : Nat → Int32 → Int32 → Int32 → dl_Sg → Option (Int32 × dl_Sg)
  | 0, _, _, _, _ => none
  | n + 1, x1, x2, x3, g =>
    if (g 1 11) ≤ x3 then (
    some (x1, g))
    else (
    dl_bi (cl2_isThere g x3) fun r1 =>
    if r1 = 0 then (
    cl6_swapped_b105 N (cl6_swapped_b8 N n) x1 x2 x3 g)
    else (
    dl_bi (cl11_bitAt x1 x3) fun r2 =>
    if r2 = 0 then (
    dl_nm (0 : Int32) fun v3 =>
    cl6_swapped_b41 N (cl6_swapped_b8 N n) N x1 x2 x3 v3 g)
    else (
    cl6_swapped_b105 N (cl6_swapped_b8 N n) x1 x2 x3 g)))
def cl6_swapped (N : Nat) (g : dl_Sg) (x1 : Int32) : Option (Int32 × dl_Sg) :=
    dl_bi (cl6_tagOf N g x1) fun r1 =>
    dl_nm r1 fun v2 =>
    dl_nm (0 : Int32) fun v3 =>
    cl6_swapped_b8 N N x1 v2 v3 g
def cl11_done (g : dl_Sg) (x1 : Int32) : Option (Int32 × dl_Sg) :=
    dl_nm (dl_s2 g 0 5 (0 : Int32)) fun g1 =>
    some (x1, g1)
def cl11_refused (g : dl_Sg) (x1 : Int32) : Option (Int32 × dl_Sg) :=
    dl_nm (dl_s2 g 0 5 x1) fun g1 =>
    some ((-1 : Int32), g1)
def cl11_street (g : dl_Sg) (x1 : Int32) (x2 : Int32) (x3 : Int32) : Option (Int32 × dl_Sg) :=
    dl_bi (cl2_mayJoin g x1 x2 x3) fun r1 =>
    if r1 = 0 then (
    dl_b2 (cl11_refused g (1 : Int32)) fun r2 g3 =>
    some (r2, g3))
    else (
    if (g 1 11) < (16 : Int32) then (
    dl_b2 (cl2_addStreet g x1 x2 x3) fun r4 g5 =>
    dl_b2 (cl11_done g5 r4) fun r6 g7 =>
    some (r6, g7))
    else (
    dl_b2 (cl11_refused g (2 : Int32)) fun r8 g9 =>
    some (r8, g9)))
def cl11_drop (g : dl_Sg) (x1 : Int32) : Option (Int32 × dl_Sg) :=
    dl_bi (cl2_hasStreet g x1) fun r1 =>
    if r1 = 0 then (
    dl_b2 (cl11_refused g (1 : Int32)) fun r2 g3 =>
    some (r2, g3))
    else (
    dl_bi (cl2_isThere g x1) fun r4 =>
    if r4 = 0 then (
    dl_b2 (cl11_refused g (3 : Int32)) fun r5 g6 =>
    some (r5, g6))
    else (
    dl_bi (cl2_dropStreet g x1) fun g7 =>
    dl_b2 (cl11_done g7 (1 : Int32)) fun r8 g9 =>
    some (r8, g9)))
def cl11_streetTold (g : dl_Sg) (x1 : Int32) (x2 : Int32) : Option Int32 :=
    dl_bi (cl2_hasStreet g x1) fun r1 =>
    if r1 = 0 then (
    some (-1 : Int32))
    else (
    if x2 = 0 then (
    dl_gd (dl_in x1 16) (
    some (g 13 x1.toNatClampNeg)))
    else (
    if x2 = 1 then (
    dl_gd (dl_in x1 16) (
    some (g 14 x1.toNatClampNeg)))
    else (
    if x2 = 2 then (
    dl_gd (dl_in x1 16) (
    some (g 15 x1.toNatClampNeg)))
    else (
    if x2 = 3 then (
    dl_bi (cl11_bitAt (g 1 14) x1) fun r2 =>
    some r2)
    else (
    if x2 = 4 then (
    dl_bi (cl11_bitAt (g 1 15) x1) fun r3 =>
    some r3)
    else (
    some (-1 : Int32)))))))
def cl11_count (g : dl_Sg) (x1 : Int32) : Option Int32 :=
    if x1 = 0 then (
    some (g 1 10))
    else (
    if x1 = 1 then (
    some (g 1 11))
    else (
    if x1 = 2 then (
    dl_bi (jd_bitCount (g 1 14)) fun r1 =>
    some r1)
    else (
    if x1 = 3 then (
    dl_bi (jd_bitCount (g 1 12)) fun r2 =>
    some r2)
    else (
    if x1 = 4 then (
    dl_bi (jd_bitCount (g 1 15)) fun r3 =>
    some r3)
    else (
    if x1 = 5 then (
    some (g 6 1))
    else (
    if x1 = 6 then (
    some (g 1 16))
    else (
    some (-1 : Int32))))))))
def cl11_apart (N : Nat) (g : dl_Sg) (x1 : Int32) (x2 : Int32) : Option (Int32 × dl_Sg) :=
    dl_bi (cl2_hasPlace g x1) fun r1 =>
    if r1 = 0 then (
    some ((-1000000 : Int32), g))
    else (
    dl_bi (cl2_hasPlace g x2) fun r2 =>
    if r2 = 0 then (
    some ((-1000000 : Int32), g))
    else (
    dl_b2 (cl8_sumOf N g x1 x2) fun r3 g4 =>
    some (r3, g4)))
def cl11_way (N : Nat) (g : dl_Sg) (x1 : Int32) (x2 : Int32) (x3 : Int32) : Option (Int32 × dl_Sg) :=
    dl_bi (cl2_hasPlace g x1) fun r1 =>
    if r1 = 0 then (
    some ((-1 : Int32), g))
    else (
    dl_bi (cl2_hasPlace g x2) fun r2 =>
    if r2 = 0 then (
    some ((-1 : Int32), g))
    else (
    dl_b2 (cl8_placeOn N g x1 x2 x3) fun r3 g4 =>
    some (r3, g4)))
def cl11_span (N : Nat) (g : dl_Sg) : Option (Int32 × dl_Sg) :=
    dl_b2 (cl8_spanOfTaps N g) fun r1 g2 =>
    some (r1, g2)
def cl11_lay_b22 (g : dl_Sg) : Option (Int32 × dl_Sg) :=
    dl_b2 (cl11_refused g (1 : Int32)) fun r1 g2 =>
    some (r1, g2)
def cl11_lay (g : dl_Sg) (x1 : Int32) : Option (Int32 × dl_Sg) :=
    dl_bi (cl2_hasStreet g x1) fun r1 =>
    if r1 = 0 then (
    cl11_lay_b22 g)
    else (
    dl_bi (cl2_isThere g x1) fun r2 =>
    if r2 = 0 then (
    cl11_lay_b22 g)
    else (
    dl_nm (dl_s2 g 1 15 ((g 1 15) ^^^ ((1 : Int32) <<< (x1 &&& 31)))) fun g3 =>
    dl_bi (cl11_bitAt (g3 1 15) x1) fun r4 =>
    dl_b2 (cl11_done g3 r4) fun r5 g6 =>
    some (r5, g6)))
def cl11_clear (g : dl_Sg) : Option (Int32 × dl_Sg) :=
    dl_bi (jd_bitCount (g 1 15)) fun r1 =>
    dl_nm r1 fun v2 =>
    dl_nm (dl_s2 g 1 15 (0 : Int32)) fun g3 =>
    dl_b2 (cl11_done g3 v2) fun r4 g5 =>
    some (r4, g5)
def cl11_why (N : Nat) (g : dl_Sg) : Option (Int32 × dl_Sg) :=
    dl_b2 (cl6_flawOf N g (g 1 15)) fun r1 g2 =>
    some (r1, g2)
def cl11_tag (N : Nat) (g : dl_Sg) : Option (Int32 × dl_Sg) :=
    dl_b2 (cl6_flawOf N g (g 1 15)) fun r1 g2 =>
    if r1 = 0 then (
    dl_bi (cl6_tagOf N g2 (g2 1 15)) fun r3 =>
    some (r3, g2))
    else (
    some ((-1000000 : Int32), g2))
def cl11_trim (N : Nat) (g : dl_Sg) : Option (Int32 × dl_Sg) :=
    dl_b2 (cl6_flawOf N g (g 1 15)) fun r1 g2 =>
    if r1 = 0 then (
    dl_bi (jd_bitCount (g2 1 15)) fun r3 =>
    dl_nm r3 fun v4 =>
    dl_bi (cl6_trimmed N g2 (g2 1 15)) fun r5 =>
    dl_nm (dl_s2 g2 1 15 r5) fun g6 =>
    dl_bi (jd_bitCount (g6 1 15)) fun r7 =>
    dl_b2 (cl11_done g6 (v4 - r7)) fun r8 g9 =>
    some (r8, g9))
    else (
    dl_b2 (cl11_refused g2 (3 : Int32)) fun r10 g11 =>
    some (r10, g11))
def cl11_better (N : Nat) (g : dl_Sg) : Option (Int32 × dl_Sg) :=
    dl_b2 (cl6_flawOf N g (g 1 15)) fun r1 g2 =>
    if r1 = 0 then (
    dl_bi (cl6_tagOf N g2 (g2 1 15)) fun r3 =>
    dl_nm r3 fun v4 =>
    dl_b2 (cl6_swapped N g2 (g2 1 15)) fun r5 g6 =>
    dl_nm (dl_s2 g6 1 15 r5) fun g7 =>
    dl_bi (cl6_tagOf N g7 (g7 1 15)) fun r8 =>
    dl_b2 (cl11_done g7 (v4 - r8)) fun r9 g10 =>
    some (r9, g10))
    else (
    dl_b2 (cl11_refused g2 (3 : Int32)) fun r11 g12 =>
    some (r11, g12))
def cl11_walls (N : Nat) (g : dl_Sg) : Option (Int32 × dl_Sg) :=
    dl_b2 (cl7_howMany N g) fun r1 g2 =>
    some (r1, g2)
def cl11_wall (N : Nat) (g : dl_Sg) (x1 : Int32) (x2 : Int32) : Option (Int32 × dl_Sg) :=
    dl_b2 (cl7_toldOf N g x1 x2) fun r1 g2 =>
    some (r1, g2)
def cl11_bound (N : Nat) (g : dl_Sg) : Option (Int32 × dl_Sg) :=
    dl_b2 (cl7_sumOfShares N g) fun r1 g2 =>
    some (r1, g2)
def cl11_trace (g : dl_Sg) (x1 : Int32) : Option Int32 :=
    dl_bi (cl5_bodyAt g x1) fun r1 =>
    some r1
def cl11_status (g : dl_Sg) : Option Int32 :=
    some (g 0 5)
