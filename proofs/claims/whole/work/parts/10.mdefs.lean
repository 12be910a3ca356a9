def mm_f0 (ad : Nat → Nat) (g : dl_Sg) : List Value := [.int (g 0 0), .ref (ad 1), .ref (ad 2), .int (g 0 3), .ref (ad 4), .ref (ad 5), .ref (ad 6), .int (g 0 7), .int (g 0 8), .int (g 0 9), .ref (ad 10), .ref (ad 11), .ref (ad 12), .ref (ad 13), .int (g 0 14), .ref (ad 15), .int (g 0 16), .ref (ad 17), .int (g 0 18), .int (g 0 19), .int (g 0 20), .ref (ad 21), .ref (ad 22), .ref (ad 23), .int (g 0 24), .int (g 0 25), .ref (ad 26), .int (g 0 27), .ref (ad 28), .ref (ad 29), .ref (ad 30), .int (g 0 31)]
def mm_w (cI : ClassId) (ad : Nat → Nat) (g : dl_Sg) : va_W := [(ad 0, .inr (12, mm_f0 ad g)), (ad 1, .inl (cI, 10, .inl (g 1))), (ad 2, .inl (cI, 10, .inl (g 2))), (ad 4, .inl (cI, 16, .inl (g 4))), (ad 5, .inl (cI, 16, .inl (g 5))), (ad 6, .inl (cI, 16, .inl (g 6))), (ad 10, .inl (cI, 10, .inl (g 10))), (ad 11, .inl (cI, 5, .inl (g 11))), (ad 12, .inl (cI, 5, .inl (g 12))), (ad 13, .inl (cI, 100, .inl (g 13))), (ad 15, .inl (cI, 50, .inl (g 15))), (ad 17, .inl (cI, 10, .inl (g 17))), (ad 21, .inl (cI, 65536, .inl (g 21))), (ad 22, .inl (cI, 65536, .inl (g 22))), (ad 23, .inl (cI, 65536, .inl (g 23))), (ad 26, .inl (cI, 10, .inl (g 26))), (ad 28, .inl (cI, 20, .inl (g 28))), (ad 29, .inl (cI, 20, .inl (g 29))), (ad 30, .inl (cI, 10, .inl (g 30)))]
section
variable {cI : ClassId} {ad : Nat → Nat} {g : dl_Sg} {R : va_W}
theorem mm_a0 : (mm_w cI ad g ++ R)[0]? = some (ad 0, .inr (12, mm_f0 ad g)) := rfl
theorem mm_p0_0 {v : Int32} : (mm_w cI ad g ++ R).set 0 (ad 0, .inr (12, (mm_f0 ad g).set 0 (.int v))) = mm_w cI ad (dl_s2 g 0 0 v) ++ R := rfl
theorem mm_p0_3 {v : Int32} : (mm_w cI ad g ++ R).set 0 (ad 0, .inr (12, (mm_f0 ad g).set 3 (.int v))) = mm_w cI ad (dl_s2 g 0 3 v) ++ R := rfl
theorem mm_p0_7 {v : Int32} : (mm_w cI ad g ++ R).set 0 (ad 0, .inr (12, (mm_f0 ad g).set 7 (.int v))) = mm_w cI ad (dl_s2 g 0 7 v) ++ R := rfl
theorem mm_p0_8 {v : Int32} : (mm_w cI ad g ++ R).set 0 (ad 0, .inr (12, (mm_f0 ad g).set 8 (.int v))) = mm_w cI ad (dl_s2 g 0 8 v) ++ R := rfl
theorem mm_p0_9 {v : Int32} : (mm_w cI ad g ++ R).set 0 (ad 0, .inr (12, (mm_f0 ad g).set 9 (.int v))) = mm_w cI ad (dl_s2 g 0 9 v) ++ R := rfl
theorem mm_p0_14 {v : Int32} : (mm_w cI ad g ++ R).set 0 (ad 0, .inr (12, (mm_f0 ad g).set 14 (.int v))) = mm_w cI ad (dl_s2 g 0 14 v) ++ R := rfl
theorem mm_p0_16 {v : Int32} : (mm_w cI ad g ++ R).set 0 (ad 0, .inr (12, (mm_f0 ad g).set 16 (.int v))) = mm_w cI ad (dl_s2 g 0 16 v) ++ R := rfl
theorem mm_p0_18 {v : Int32} : (mm_w cI ad g ++ R).set 0 (ad 0, .inr (12, (mm_f0 ad g).set 18 (.int v))) = mm_w cI ad (dl_s2 g 0 18 v) ++ R := rfl
theorem mm_p0_19 {v : Int32} : (mm_w cI ad g ++ R).set 0 (ad 0, .inr (12, (mm_f0 ad g).set 19 (.int v))) = mm_w cI ad (dl_s2 g 0 19 v) ++ R := rfl
theorem mm_p0_20 {v : Int32} : (mm_w cI ad g ++ R).set 0 (ad 0, .inr (12, (mm_f0 ad g).set 20 (.int v))) = mm_w cI ad (dl_s2 g 0 20 v) ++ R := rfl
theorem mm_p0_24 {v : Int32} : (mm_w cI ad g ++ R).set 0 (ad 0, .inr (12, (mm_f0 ad g).set 24 (.int v))) = mm_w cI ad (dl_s2 g 0 24 v) ++ R := rfl
theorem mm_p0_25 {v : Int32} : (mm_w cI ad g ++ R).set 0 (ad 0, .inr (12, (mm_f0 ad g).set 25 (.int v))) = mm_w cI ad (dl_s2 g 0 25 v) ++ R := rfl
theorem mm_p0_27 {v : Int32} : (mm_w cI ad g ++ R).set 0 (ad 0, .inr (12, (mm_f0 ad g).set 27 (.int v))) = mm_w cI ad (dl_s2 g 0 27 v) ++ R := rfl
theorem mm_p0_31 {v : Int32} : (mm_w cI ad g ++ R).set 0 (ad 0, .inr (12, (mm_f0 ad g).set 31 (.int v))) = mm_w cI ad (dl_s2 g 0 31 v) ++ R := rfl
theorem mm_a1 : (mm_w cI ad g ++ R)[1]? = some (ad 1, .inl (cI, 10, .inl (g 1))) := rfl
theorem mm_s1 {i v : Int32} : (mm_w cI ad g ++ R).set 1 (ad 1, .inl (cI, 10, .inl (upd (g 1) i.toNatClampNeg v))) = mm_w cI ad (dl_wr g 1 i v) ++ R := rfl
theorem mm_a2 : (mm_w cI ad g ++ R)[2]? = some (ad 2, .inl (cI, 10, .inl (g 2))) := rfl
theorem mm_s2 {i v : Int32} : (mm_w cI ad g ++ R).set 2 (ad 2, .inl (cI, 10, .inl (upd (g 2) i.toNatClampNeg v))) = mm_w cI ad (dl_wr g 2 i v) ++ R := rfl
theorem mm_a4 : (mm_w cI ad g ++ R)[3]? = some (ad 4, .inl (cI, 16, .inl (g 4))) := rfl
theorem mm_s4 {i v : Int32} : (mm_w cI ad g ++ R).set 3 (ad 4, .inl (cI, 16, .inl (upd (g 4) i.toNatClampNeg v))) = mm_w cI ad (dl_wr g 4 i v) ++ R := rfl
theorem mm_a5 : (mm_w cI ad g ++ R)[4]? = some (ad 5, .inl (cI, 16, .inl (g 5))) := rfl
theorem mm_s5 {i v : Int32} : (mm_w cI ad g ++ R).set 4 (ad 5, .inl (cI, 16, .inl (upd (g 5) i.toNatClampNeg v))) = mm_w cI ad (dl_wr g 5 i v) ++ R := rfl
theorem mm_a6 : (mm_w cI ad g ++ R)[5]? = some (ad 6, .inl (cI, 16, .inl (g 6))) := rfl
theorem mm_s6 {i v : Int32} : (mm_w cI ad g ++ R).set 5 (ad 6, .inl (cI, 16, .inl (upd (g 6) i.toNatClampNeg v))) = mm_w cI ad (dl_wr g 6 i v) ++ R := rfl
theorem mm_a10 : (mm_w cI ad g ++ R)[6]? = some (ad 10, .inl (cI, 10, .inl (g 10))) := rfl
theorem mm_s10 {i v : Int32} : (mm_w cI ad g ++ R).set 6 (ad 10, .inl (cI, 10, .inl (upd (g 10) i.toNatClampNeg v))) = mm_w cI ad (dl_wr g 10 i v) ++ R := rfl
theorem mm_a11 : (mm_w cI ad g ++ R)[7]? = some (ad 11, .inl (cI, 5, .inl (g 11))) := rfl
theorem mm_s11 {i v : Int32} : (mm_w cI ad g ++ R).set 7 (ad 11, .inl (cI, 5, .inl (upd (g 11) i.toNatClampNeg v))) = mm_w cI ad (dl_wr g 11 i v) ++ R := rfl
theorem mm_a12 : (mm_w cI ad g ++ R)[8]? = some (ad 12, .inl (cI, 5, .inl (g 12))) := rfl
theorem mm_s12 {i v : Int32} : (mm_w cI ad g ++ R).set 8 (ad 12, .inl (cI, 5, .inl (upd (g 12) i.toNatClampNeg v))) = mm_w cI ad (dl_wr g 12 i v) ++ R := rfl
theorem mm_a13 : (mm_w cI ad g ++ R)[9]? = some (ad 13, .inl (cI, 100, .inl (g 13))) := rfl
theorem mm_s13 {i v : Int32} : (mm_w cI ad g ++ R).set 9 (ad 13, .inl (cI, 100, .inl (upd (g 13) i.toNatClampNeg v))) = mm_w cI ad (dl_wr g 13 i v) ++ R := rfl
theorem mm_a15 : (mm_w cI ad g ++ R)[10]? = some (ad 15, .inl (cI, 50, .inl (g 15))) := rfl
theorem mm_s15 {i v : Int32} : (mm_w cI ad g ++ R).set 10 (ad 15, .inl (cI, 50, .inl (upd (g 15) i.toNatClampNeg v))) = mm_w cI ad (dl_wr g 15 i v) ++ R := rfl
theorem mm_a17 : (mm_w cI ad g ++ R)[11]? = some (ad 17, .inl (cI, 10, .inl (g 17))) := rfl
theorem mm_s17 {i v : Int32} : (mm_w cI ad g ++ R).set 11 (ad 17, .inl (cI, 10, .inl (upd (g 17) i.toNatClampNeg v))) = mm_w cI ad (dl_wr g 17 i v) ++ R := rfl
theorem mm_a21 : (mm_w cI ad g ++ R)[12]? = some (ad 21, .inl (cI, 65536, .inl (g 21))) := rfl
theorem mm_s21 {i v : Int32} : (mm_w cI ad g ++ R).set 12 (ad 21, .inl (cI, 65536, .inl (upd (g 21) i.toNatClampNeg v))) = mm_w cI ad (dl_wr g 21 i v) ++ R := rfl
theorem mm_a22 : (mm_w cI ad g ++ R)[13]? = some (ad 22, .inl (cI, 65536, .inl (g 22))) := rfl
theorem mm_s22 {i v : Int32} : (mm_w cI ad g ++ R).set 13 (ad 22, .inl (cI, 65536, .inl (upd (g 22) i.toNatClampNeg v))) = mm_w cI ad (dl_wr g 22 i v) ++ R := rfl
theorem mm_a23 : (mm_w cI ad g ++ R)[14]? = some (ad 23, .inl (cI, 65536, .inl (g 23))) := rfl
theorem mm_s23 {i v : Int32} : (mm_w cI ad g ++ R).set 14 (ad 23, .inl (cI, 65536, .inl (upd (g 23) i.toNatClampNeg v))) = mm_w cI ad (dl_wr g 23 i v) ++ R := rfl
theorem mm_a26 : (mm_w cI ad g ++ R)[15]? = some (ad 26, .inl (cI, 10, .inl (g 26))) := rfl
theorem mm_s26 {i v : Int32} : (mm_w cI ad g ++ R).set 15 (ad 26, .inl (cI, 10, .inl (upd (g 26) i.toNatClampNeg v))) = mm_w cI ad (dl_wr g 26 i v) ++ R := rfl
theorem mm_a28 : (mm_w cI ad g ++ R)[16]? = some (ad 28, .inl (cI, 20, .inl (g 28))) := rfl
theorem mm_s28 {i v : Int32} : (mm_w cI ad g ++ R).set 16 (ad 28, .inl (cI, 20, .inl (upd (g 28) i.toNatClampNeg v))) = mm_w cI ad (dl_wr g 28 i v) ++ R := rfl
theorem mm_a29 : (mm_w cI ad g ++ R)[17]? = some (ad 29, .inl (cI, 20, .inl (g 29))) := rfl
theorem mm_s29 {i v : Int32} : (mm_w cI ad g ++ R).set 17 (ad 29, .inl (cI, 20, .inl (upd (g 29) i.toNatClampNeg v))) = mm_w cI ad (dl_wr g 29 i v) ++ R := rfl
theorem mm_a30 : (mm_w cI ad g ++ R)[18]? = some (ad 30, .inl (cI, 10, .inl (g 30))) := rfl
theorem mm_s30 {i v : Int32} : (mm_w cI ad g ++ R).set 18 (ad 30, .inl (cI, 10, .inl (upd (g 30) i.toNatClampNeg v))) = mm_w cI ad (dl_wr g 30 i v) ++ R := rfl
end
def mo_in (x0 : Int32) (x1 : Int32) (x2 : Int32) : Option Int32 :=
    if x0 < x1 then (
    some (0 : Int32))
    else (
    if x2 < x0 then (
    some (0 : Int32))
    else (
    some (1 : Int32)))
def mo_refused (g : dl_Sg) (x1 : Int32) : Option (Int32 × dl_Sg) :=
    dl_nm (dl_s2 g 0 14 x1) fun g1 =>
    some ((-1 : Int32), g1)
def mo_done (g : dl_Sg) (x1 : Int32) : Option (Int32 × dl_Sg) :=
    dl_nm (dl_s2 g 0 14 (0 : Int32)) fun g1 =>
    some (x1, g1)
def mo_isPlace (g : dl_Sg) (x1 : Int32) : Option Int32 :=
    dl_bi (mo_in x1 (0 : Int32) ((g 0 0) - (1 : Int32))) fun r1 =>
    dl_gd (dl_bo r1) (some r1)
def mo_isStreet (g : dl_Sg) (x1 : Int32) : Option Int32 :=
    dl_bi (mo_in x1 (0 : Int32) ((g 0 3) - (1 : Int32))) fun r1 =>
    dl_gd (dl_bo r1) (some r1)
def mo_has (x0 : Int32) (x1 : Int32) : Option Int32 :=
    if ((x0 >>> (x1 &&& 31)) &&& (1 : Int32)) = (1 : Int32) then (
    some (1 : Int32))
    else (
    some (0 : Int32))
def mo_isTap_b20 (g : dl_Sg) : Option Int32 :=
    some (1 : Int32)
def mo_isTap (g : dl_Sg) (x1 : Int32) : Option Int32 :=
    dl_gd (dl_in x1 10) (
    if (g 1 x1.toNatClampNeg) = (1 : Int32) then (
    mo_isTap_b20 g )
    else (
    dl_gd (dl_in x1 10) (
    if (g 1 x1.toNatClampNeg) = (3 : Int32) then (
    mo_isTap_b20 g )
    else (
    some (0 : Int32)))))
def mo_taps_b28 (N : Nat) (g : dl_Sg) (k4 : Int32 → Int32 → Option Int32) (x2 : Int32) (y0 : Int32) (y1 : Int32) : Option Int32 :=
    dl_nm (y0 ||| y1) fun v1 =>
    dl_nm (x2 + 1) fun v2 =>
    k4 v1 v2
def mo_taps_b4 (N : Nat) (g : dl_Sg) : Nat → Int32 → Int32 → Option Int32
  | 0, _, _ => none
  | n + 1, x1, x2 =>
    if (g 0 0) ≤ x2 then (
    some x1)
    else (
    dl_bi (mo_isTap g x2) fun r1 =>
    if r1 = 0 then (
    mo_taps_b28 N g (mo_taps_b4 N g n) x2 x1 (0 : Int32))
    else (
    mo_taps_b28 N g (mo_taps_b4 N g n) x2 x1 ((1 : Int32) <<< (x2 &&& 31))))
def mo_taps (N : Nat) (g : dl_Sg) : Option Int32 :=
    dl_nm (0 : Int32) fun v1 =>
    dl_nm (0 : Int32) fun v2 =>
    mo_taps_b4 N g N v1 v2
def mo_bits_b4 (N : Nat) : Nat → Int32 → Int32 → Int32 → Option Int32
  | 0, _, _, _ => none
  | n + 1, x0, x1, x2 =>
    if (16 : Int32) ≤ x2 then (
    some x1)
    else (
    dl_nm (x1 + ((x0 >>> (x2 &&& 31)) &&& (1 : Int32))) fun v1 =>
    dl_nm (x2 + 1) fun v2 =>
    mo_bits_b4 N n x0 v1 v2)
def mo_bits (N : Nat) (x0 : Int32) : Option Int32 :=
    dl_nm (0 : Int32) fun v1 =>
    dl_nm (0 : Int32) fun v2 =>
    mo_bits_b4 N N x0 v1 v2
def mo_changed_b49 (N : Nat) (x1 : Int32) (g : dl_Sg) : Option dl_Sg :=
    dl_gd (dl_in (g 0 9) 10) (dl_nm (dl_wr g 10 (g 0 9) x1) fun g1 =>
    dl_nm (dl_s2 g1 0 9 ((g1 0 9) + (1 : Int32))) fun g2 =>
    dl_nm (dl_s2 g2 0 19 (0 : Int32)) fun g3 =>
    some g3)
def mo_changed_b21 (N : Nat) : Nat → Int32 → Int32 → dl_Sg → Option dl_Sg
  | 0, _, _, _ => none
  | n + 1, x1, x2, g =>
    if (g 0 9) ≤ x2 then (
    mo_changed_b49 N x1 g)
    else (
    dl_gd (dl_in (x2 + (1 : Int32)) 10) (
    dl_gd (dl_in x2 10) (dl_nm (dl_wr g 10 x2 (g 10 (x2 + (1 : Int32)).toNatClampNeg)) fun g1 =>
    dl_nm (x2 + 1) fun v2 =>
    mo_changed_b21 N n x1 v2 g1)))
def mo_changed (N : Nat) (g : dl_Sg) (x1 : Int32) : Option dl_Sg :=
    if (g 0 9) = (10 : Int32) then (
    dl_nm (dl_s2 g 0 9 ((g 0 9) - (1 : Int32))) fun g1 =>
    dl_nm (0 : Int32) fun v2 =>
    mo_changed_b21 N N x1 v2 g1)
    else (
    mo_changed_b49 N x1 g)
def mo_place_b127 (N : Nat) (y1 : Int32) (y2 : Int32) (g : dl_Sg) : Option (Int32 × dl_Sg) :=
    dl_gd (dl_in y1 10) (dl_nm (dl_wr g 2 y1 y2) fun g1 =>
    dl_nm (dl_s2 g1 0 0 ((g1 0 0) + (1 : Int32))) fun g2 =>
    dl_bi (mo_changed N g2 (1 : Int32)) fun g3 =>
    dl_b2 (mo_done g3 ((g3 0 0) - (1 : Int32))) fun r4 g5 =>
    some (r4, g5))
def mo_place_b94 (N : Nat) (k63 : Int32 → Int32 → Int32 → Int32 → dl_Sg → Option (Int32 × dl_Sg)) (x1 : Int32) (x2 : Int32) (x3 : Int32) (x4 : Int32) (g : dl_Sg) : Option (Int32 × dl_Sg) :=
    dl_nm (x4 + 1) fun v1 =>
    k63 x1 x2 x3 v1 g
def mo_place_b63 (N : Nat) : Nat → Int32 → Int32 → Int32 → Int32 → dl_Sg → Option (Int32 × dl_Sg)
  | 0, _, _, _, _, _ => none
  | n + 1, x1, x2, x3, x4, g =>
    if (g 0 0) ≤ x4 then (
    dl_gd (dl_in (g 0 0) 10) (dl_nm (dl_wr g 1 (g 0 0) x1) fun g1 =>
    if x3 = 0 then (
    mo_place_b127 N (g1 0 0) (0 : Int32) g1)
    else (
    mo_place_b127 N (g1 0 0) x2 g1)))
    else (
    if x1 = (3 : Int32) then (
    dl_gd (dl_in x4 10) (
    if (g 1 x4.toNatClampNeg) = (3 : Int32) then (
    dl_b2 (mo_refused g (3 : Int32)) fun r3 g4 =>
    some (r3, g4))
    else (
    mo_place_b94 N (mo_place_b63 N n) x1 x2 x3 x4 g)))
    else (
    mo_place_b94 N (mo_place_b63 N n) x1 x2 x3 x4 g))
def mo_place_b45 (N : Nat) (x1 : Int32) (x2 : Int32) (x3 : Int32) (g : dl_Sg) : Option (Int32 × dl_Sg) :=
    if (g 0 0) = (10 : Int32) then (
    dl_b2 (mo_refused g (2 : Int32)) fun r1 g2 =>
    some (r1, g2))
    else (
    dl_nm (0 : Int32) fun v3 =>
    mo_place_b63 N N x1 x2 x3 v3 g)
def mo_place_b39 (N : Nat) (g : dl_Sg) : Option (Int32 × dl_Sg) :=
    dl_b2 (mo_refused g (1 : Int32)) fun r1 g2 =>
    some (r1, g2)
def mo_place_b15 (N : Nat) (x1 : Int32) (x2 : Int32) (y0 : Int32) (g : dl_Sg) : Option (Int32 × dl_Sg) :=
    dl_nm y0 fun v1 =>
    dl_bi (mo_in x1 (0 : Int32) (4 : Int32)) fun r2 =>
    if r2 = 0 then (
    mo_place_b39 N g)
    else (
    if v1 = 0 then (
    mo_place_b45 N x1 x2 v1 g)
    else (
    dl_bi (mo_in x2 (1 : Int32) (100 : Int32)) fun r3 =>
    if r3 = 0 then (
    mo_place_b39 N g)
    else (
    mo_place_b45 N x1 x2 v1 g)))
def mo_place_b10 (N : Nat) (x1 : Int32) (x2 : Int32) (g : dl_Sg) : Option (Int32 × dl_Sg) :=
    mo_place_b15 N x1 x2 (1 : Int32) g
def mo_place (N : Nat) (g : dl_Sg) (x1 : Int32) (x2 : Int32) : Option (Int32 × dl_Sg) :=
    if x1 = (2 : Int32) then (
    mo_place_b10 N x1 x2 g)
    else (
    if x1 = (4 : Int32) then (
    mo_place_b10 N x1 x2 g)
    else (
    mo_place_b15 N x1 x2 (0 : Int32) g))
def mo_made (N : Nat) (g : dl_Sg) (x1 : Int32) (x2 : Int32) (x3 : Int32) : Option (Int32 × dl_Sg) :=
    dl_gd (dl_in (g 0 3) 16) (dl_nm (dl_wr g 4 (g 0 3) x1) fun g1 =>
    dl_gd (dl_in (g1 0 3) 16) (dl_nm (dl_wr g1 5 (g1 0 3) x2) fun g2 =>
    dl_gd (dl_in (g2 0 3) 16) (dl_nm (dl_wr g2 6 (g2 0 3) x3) fun g3 =>
    dl_nm (dl_s2 g3 0 7 ((g3 0 7) ||| ((1 : Int32) <<< ((g3 0 3) &&& 31)))) fun g4 =>
    dl_nm (dl_s2 g4 0 3 ((g4 0 3) + (1 : Int32))) fun g5 =>
    dl_bi (mo_changed N g5 (2 : Int32)) fun g6 =>
    dl_b2 (mo_done g6 ((g6 0 3) - (1 : Int32))) fun r7 g8 =>
    some (r7, g8))))
def mo_isGood (g : dl_Sg) (x1 : Int32) (x2 : Int32) (x3 : Int32) : Option Int32 :=
    dl_bi (mo_isPlace g x1) fun r1 =>
    if r1 = 0 then (
    some (0 : Int32))
    else (
    dl_bi (mo_isPlace g x2) fun r2 =>
    if r2 = 0 then (
    some (0 : Int32))
    else (
    if x1 = x2 then (
    some (0 : Int32))
    else (
    dl_bi (mo_in x3 (1 : Int32) (100 : Int32)) fun r3 =>
    if r3 = 0 then (
    some (0 : Int32))
    else (
    some (1 : Int32)))))
def mo_street (N : Nat) (g : dl_Sg) (x1 : Int32) (x2 : Int32) (x3 : Int32) : Option (Int32 × dl_Sg) :=
    dl_bi (mo_isGood g x1 x2 x3) fun r1 =>
    if r1 = 0 then (
    dl_b2 (mo_refused g (1 : Int32)) fun r2 g3 =>
    some (r2, g3))
    else (
    if (g 0 3) = (16 : Int32) then (
    dl_b2 (mo_refused g (2 : Int32)) fun r4 g5 =>
    some (r4, g5))
    else (
    dl_b2 (mo_made N g x1 x2 x3) fun r6 g7 =>
    some (r6, g7)))
def mo_drop (N : Nat) (g : dl_Sg) (x1 : Int32) : Option (Int32 × dl_Sg) :=
    dl_bi (mo_isStreet g x1) fun r1 =>
    if r1 = 0 then (
    dl_b2 (mo_refused g (1 : Int32)) fun r2 g3 =>
    some (r2, g3))
    else (
    dl_bi (mo_has (g 0 7) x1) fun r4 =>
    if r4 = 0 then (
    dl_b2 (mo_refused g (3 : Int32)) fun r5 g6 =>
    some (r5, g6))
    else (
    dl_nm (dl_s2 g 0 7 ((g 0 7) &&& (((1 : Int32) <<< (x1 &&& 31)) ^^^ (-1 : Int32)))) fun g7 =>
    dl_nm (dl_s2 g7 0 8 ((g7 0 8) &&& (((1 : Int32) <<< (x1 &&& 31)) ^^^ (-1 : Int32)))) fun g8 =>
    dl_bi (mo_changed N g8 ((3 : Int32) + x1)) fun g9 =>
    dl_b2 (mo_done g9 (1 : Int32)) fun r10 g11 =>
    some (r10, g11)))
def mo_undo_b100 (g : dl_Sg) : Option (Int32 × dl_Sg) :=
    dl_nm (dl_s2 g 0 8 (0 : Int32)) fun g1 =>
    dl_nm (dl_s2 g1 0 19 (0 : Int32)) fun g2 =>
    dl_b2 (mo_done g2 (1 : Int32)) fun r3 g4 =>
    some (r3, g4)
def mo_undo (g : dl_Sg) : Option (Int32 × dl_Sg) :=
    if (g 0 9) = 0 then (
    dl_b2 (mo_refused g (3 : Int32)) fun r1 g2 =>
    some (r1, g2))
    else (
    dl_nm (dl_s2 g 0 9 ((g 0 9) - (1 : Int32))) fun g3 =>
    dl_gd (dl_in (g3 0 9) 10) (
    dl_nm (g3 10 (g3 0 9).toNatClampNeg) fun v4 =>
    if v4 = (1 : Int32) then (
    dl_nm (dl_s2 g3 0 0 ((g3 0 0) - (1 : Int32))) fun g5 =>
    mo_undo_b100 g5)
    else (
    if v4 = (2 : Int32) then (
    dl_nm (dl_s2 g3 0 3 ((g3 0 3) - (1 : Int32))) fun g6 =>
    dl_nm (dl_s2 g6 0 7 ((g6 0 7) &&& (((1 : Int32) <<< ((g6 0 3) &&& 31)) ^^^ (-1 : Int32)))) fun g7 =>
    mo_undo_b100 g7)
    else (
    dl_nm (dl_s2 g3 0 7 ((g3 0 7) ||| ((1 : Int32) <<< ((v4 - (3 : Int32)) &&& 31)))) fun g8 =>
    mo_undo_b100 g8))))
def mo_degree_b51 (N : Nat) (g : dl_Sg) (k5 : Int32 → Int32 → Int32 → Int32 → Option Int32) (x1 : Int32) (x2 : Int32) (x4 : Int32) (y0 : Int32) (y1 : Int32) : Option Int32 :=
    dl_nm (y0 + y1) fun v1 =>
    dl_nm (x4 + 1) fun v2 =>
    k5 x1 x2 v1 v2
def mo_degree_b50 (N : Nat) (g : dl_Sg) (k5 : Int32 → Int32 → Int32 → Int32 → Option Int32) (x1 : Int32) (x2 : Int32) (x4 : Int32) (y0 : Int32) : Option Int32 :=
    mo_degree_b51 N g k5 x1 x2 x4 y0 (0 : Int32)
def mo_degree_b46 (N : Nat) (g : dl_Sg) (k5 : Int32 → Int32 → Int32 → Int32 → Option Int32) (x1 : Int32) (x2 : Int32) (x4 : Int32) (y0 : Int32) : Option Int32 :=
    mo_degree_b51 N g k5 x1 x2 x4 y0 (1 : Int32)
def mo_degree_b5 (N : Nat) (g : dl_Sg) : Nat → Int32 → Int32 → Int32 → Int32 → Option Int32
  | 0, _, _, _, _ => none
  | n + 1, x1, x2, x3, x4 =>
    if (g 0 3) ≤ x4 then (
    some x3)
    else (
    dl_bi (mo_has x2 x4) fun r1 =>
    if r1 = 0 then (
    mo_degree_b50 N g (mo_degree_b5 N g n) x1 x2 x4 x3)
    else (
    dl_gd (dl_in x4 16) (
    if (g 4 x4.toNatClampNeg) = x1 then (
    mo_degree_b46 N g (mo_degree_b5 N g n) x1 x2 x4 x3)
    else (
    dl_gd (dl_in x4 16) (
    if (g 5 x4.toNatClampNeg) = x1 then (
    mo_degree_b46 N g (mo_degree_b5 N g n) x1 x2 x4 x3)
    else (
    mo_degree_b50 N g (mo_degree_b5 N g n) x1 x2 x4 x3))))))
def mo_degree (N : Nat) (g : dl_Sg) (x1 : Int32) (x2 : Int32) : Option Int32 :=
    dl_nm (0 : Int32) fun v1 =>
    dl_nm (0 : Int32) fun v2 =>
    mo_degree_b5 N g N x1 x2 v1 v2
def mo_told (N : Nat) (g : dl_Sg) (x1 : Int32) (x2 : Int32) : Option Int32 :=
    dl_bi (mo_isPlace g x1) fun r1 =>
    if r1 = 0 then (
    some (-1 : Int32))
    else (
    if x2 = 0 then (
    dl_gd (dl_in x1 10) (
    some (g 1 x1.toNatClampNeg)))
    else (
    if x2 = (1 : Int32) then (
    dl_gd (dl_in x1 10) (
    some (g 2 x1.toNatClampNeg)))
    else (
    if x2 = (2 : Int32) then (
    dl_bi (mo_degree N g x1 (g 0 7)) fun r2 =>
    some r2)
    else (
    some (-1 : Int32)))))
def mo_streetTold (g : dl_Sg) (x1 : Int32) (x2 : Int32) : Option Int32 :=
    dl_bi (mo_isStreet g x1) fun r1 =>
    if r1 = 0 then (
    some (-1 : Int32))
    else (
    if x2 = 0 then (
    dl_gd (dl_in x1 16) (
    some (g 4 x1.toNatClampNeg)))
    else (
    if x2 = 1 then (
    dl_gd (dl_in x1 16) (
    some (g 5 x1.toNatClampNeg)))
    else (
    if x2 = 2 then (
    dl_gd (dl_in x1 16) (
    some (g 6 x1.toNatClampNeg)))
    else (
    if x2 = 3 then (
    some (((g 0 7) >>> (x1 &&& 31)) &&& (1 : Int32)))
    else (
    if x2 = 4 then (
    some (((g 0 8) >>> (x1 &&& 31)) &&& (1 : Int32)))
    else (
    some (-1 : Int32)))))))
def mo_count (N : Nat) (g : dl_Sg) (x1 : Int32) : Option Int32 :=
    if x1 = 0 then (
    some (g 0 0))
    else (
    if x1 = 1 then (
    some (g 0 3))
    else (
    if x1 = 2 then (
    dl_bi (mo_bits N (g 0 7)) fun r1 =>
    some r1)
    else (
    if x1 = 3 then (
    dl_bi (mo_taps N g) fun r2 =>
    dl_bi (mo_bits N r2) fun r3 =>
    some r3)
    else (
    if x1 = 4 then (
    dl_bi (mo_bits N (g 0 8)) fun r4 =>
    some r4)
    else (
    if x1 = 5 then (
    some (g 0 16))
    else (
    if x1 = 6 then (
    some (g 0 9))
    else (
    some (-1 : Int32))))))))
def mo_treeOf_b226 (N : Nat) (g : dl_Sg) : Option (Int32 × dl_Sg) :=
    some ((3 : Int32), g)
def mo_treeOf_b211 (N : Nat) (x3 : Int32) (g : dl_Sg) : Option (Int32 × dl_Sg) :=
    if x3 = 0 then (
    mo_treeOf_b226 N g)
    else (
    if (x3 &&& ((g 0 18) ^^^ (-1 : Int32))) = 0 then (
    some ((0 : Int32), g))
    else (
    mo_treeOf_b226 N g))
def mo_treeOf_b190 (N : Nat) (x3 : Int32) (y1 : Int32) (g : dl_Sg) : Option (Int32 × dl_Sg) :=
    dl_nm (dl_s2 g 0 18 y1) fun g1 =>
    mo_treeOf_b211 N x3 g1
def mo_treeOf_b161 (N : Nat) (k32 : Int32 → Int32 → Int32 → dl_Sg → Option (Int32 × dl_Sg)) (x1 : Int32) (x2 : Int32) (x3 : Int32) (g : dl_Sg) : Option (Int32 × dl_Sg) :=
    dl_nm (x3 + 1) fun v1 =>
    k32 x1 x2 v1 g
def mo_treeOf_b125 (N : Nat) (k32 : Int32 → Int32 → Int32 → dl_Sg → Option (Int32 × dl_Sg)) (k86 : Int32 → Int32 → Int32 → Int32 → Int32 → Int32 → dl_Sg → Option (Int32 × dl_Sg)) (x1 : Int32) (x2 : Int32) (x3 : Int32) (x4 : Int32) (x5 : Int32) (x6 : Int32) (y1 : Int32) (y2 : Int32) (g : dl_Sg) : Option (Int32 × dl_Sg) :=
    dl_gd (dl_in y1 10) (dl_nm (dl_wr g 17 y1 y2) fun g1 =>
    dl_nm (x6 + 1) fun v2 =>
    k86 x1 x2 x3 x4 x5 v2 g1)
def mo_treeOf_b86 (N : Nat) (k32 : Int32 → Int32 → Int32 → dl_Sg → Option (Int32 × dl_Sg)) : Nat → Int32 → Int32 → Int32 → Int32 → Int32 → Int32 → dl_Sg → Option (Int32 × dl_Sg)
  | 0, _, _, _, _, _, _, _ => none
  | n + 1, x1, x2, x3, x4, x5, x6, g =>
    if (g 0 0) ≤ x6 then (
    dl_gd (dl_in x3 16) (
    dl_gd (dl_in x3 16) (
    dl_nm (dl_s2 g 0 18 ((g 0 18) ||| (((1 : Int32) <<< ((g 4 x3.toNatClampNeg) &&& 31)) ||| ((1 : Int32) <<< ((g 5 x3.toNatClampNeg) &&& 31))))) fun g1 =>
    dl_nm (x2 + 1) fun v2 =>
    mo_treeOf_b161 N k32 x1 v2 x3 g1)))
    else (
    dl_gd (dl_in x6 10) (
    if (g 17 x6.toNatClampNeg) = x4 then (
    mo_treeOf_b125 N k32 (mo_treeOf_b86 N k32 n) x1 x2 x3 x4 x5 x6 x6 x5 g)
    else (
    dl_gd (dl_in x6 10) (
    mo_treeOf_b125 N k32 (mo_treeOf_b86 N k32 n) x1 x2 x3 x4 x5 x6 x6 (g 17 x6.toNatClampNeg) g))))
def mo_treeOf_b32 (N : Nat) : Nat → Int32 → Int32 → Int32 → dl_Sg → Option (Int32 × dl_Sg)
  | 0, _, _, _, _ => none
  | n + 1, x1, x2, x3, g =>
    if (g 0 3) ≤ x3 then (
    dl_bi (mo_taps N g) fun r1 =>
    dl_nm r1 fun v2 =>
    if x2 = 0 then (
    dl_bi (mo_bits N v2) fun r3 =>
    if r3 = (1 : Int32) then (
    mo_treeOf_b190 N v2 v2 g)
    else (
    mo_treeOf_b190 N v2 (0 : Int32) g))
    else (
    dl_bi (mo_bits N (g 0 18)) fun r5 =>
    if r5 = (x2 + (1 : Int32)) then (
    mo_treeOf_b211 N v2 g)
    else (
    some ((2 : Int32), g))))
    else (
    dl_bi (mo_has x1 x3) fun r8 =>
    if r8 = 0 then (
    mo_treeOf_b161 N (mo_treeOf_b32 N n) x1 x2 x3 g)
    else (
    dl_gd (dl_in x3 16) (
    dl_gd (dl_in (g 4 x3.toNatClampNeg) 10) (
    dl_nm (g 17 (g 4 x3.toNatClampNeg).toNatClampNeg) fun v9 =>
    dl_gd (dl_in x3 16) (
    dl_gd (dl_in (g 5 x3.toNatClampNeg) 10) (
    dl_nm (g 17 (g 5 x3.toNatClampNeg).toNatClampNeg) fun v10 =>
    if v9 = v10 then (
    some ((1 : Int32), g))
    else (
    dl_nm (0 : Int32) fun v11 =>
    mo_treeOf_b86 N (mo_treeOf_b32 N n) N x1 x2 x3 v9 v10 v11 g)))))))
def mo_treeOf_b2 (N : Nat) : Nat → Int32 → Int32 → dl_Sg → Option (Int32 × dl_Sg)
  | 0, _, _, _ => none
  | n + 1, x1, x2, g =>
    if (g 0 0) ≤ x2 then (
    dl_nm (dl_s2 g 0 18 (0 : Int32)) fun g1 =>
    dl_nm (0 : Int32) fun v2 =>
    dl_nm (0 : Int32) fun v3 =>
    mo_treeOf_b32 N N x1 v2 v3 g1)
    else (
    dl_gd (dl_in x2 10) (dl_nm (dl_wr g 17 x2 x2) fun g4 =>
    dl_nm (x2 + 1) fun v5 =>
    mo_treeOf_b2 N n x1 v5 g4))
def mo_treeOf (N : Nat) (g : dl_Sg) (x1 : Int32) : Option (Int32 × dl_Sg) :=
    dl_nm (0 : Int32) fun v1 =>
    mo_treeOf_b2 N N x1 v1 g
def mo_costOf_b81 (N : Nat) (g : dl_Sg) (k41 : Int32 → Int32 → Option Int32) (x3 : Int32) (y0 : Int32) (y1 : Int32) : Option Int32 :=
    dl_nm (y0 + y1) fun v1 =>
    dl_nm (x3 + 1) fun v2 =>
    k41 v1 v2
def mo_costOf_b80 (N : Nat) (g : dl_Sg) (k41 : Int32 → Int32 → Option Int32) (x3 : Int32) (y0 : Int32) : Option Int32 :=
    mo_costOf_b81 N g k41 x3 y0 (0 : Int32)
def mo_costOf_b41 (N : Nat) (g : dl_Sg) : Nat → Int32 → Int32 → Option Int32
  | 0, _, _ => none
  | n + 1, x2, x3 =>
    if (g 0 0) ≤ x3 then (
    some x2)
    else (
    dl_bi (mo_has (g 0 18) x3) fun r1 =>
    if r1 = 0 then (
    mo_costOf_b80 N g (mo_costOf_b41 N g n) x3 x2)
    else (
    dl_gd (dl_in x3 10) (
    if (g 1 x3.toNatClampNeg) = (4 : Int32) then (
    dl_gd (dl_in x3 10) (
    mo_costOf_b81 N g (mo_costOf_b41 N g n) x3 x2 (g 2 x3.toNatClampNeg)))
    else (
    mo_costOf_b80 N g (mo_costOf_b41 N g n) x3 x2))))
def mo_costOf_b31 (N : Nat) (g : dl_Sg) (k4 : Int32 → Int32 → Int32 → Option Int32) (x1 : Int32) (x3 : Int32) (y0 : Int32) (y1 : Int32) : Option Int32 :=
    dl_nm (y0 + y1) fun v1 =>
    dl_nm (x3 + 1) fun v2 =>
    k4 x1 v1 v2
def mo_costOf_b4 (N : Nat) (g : dl_Sg) : Nat → Int32 → Int32 → Int32 → Option Int32
  | 0, _, _, _ => none
  | n + 1, x1, x2, x3 =>
    if (g 0 3) ≤ x3 then (
    dl_nm (0 : Int32) fun v1 =>
    mo_costOf_b41 N g N x2 v1)
    else (
    dl_bi (mo_has x1 x3) fun r2 =>
    if r2 = 0 then (
    mo_costOf_b31 N g (mo_costOf_b4 N g n) x1 x3 x2 (0 : Int32))
    else (
    dl_gd (dl_in x3 16) (
    mo_costOf_b31 N g (mo_costOf_b4 N g n) x1 x3 x2 (g 6 x3.toNatClampNeg))))
def mo_costOf (N : Nat) (g : dl_Sg) (x1 : Int32) : Option Int32 :=
    dl_nm (0 : Int32) fun v1 =>
    dl_nm (0 : Int32) fun v2 =>
    mo_costOf_b4 N g N x1 v1 v2
def mo_worthOf_b44 (N : Nat) (g : dl_Sg) (k4 : Int32 → Int32 → Option Int32) (x2 : Int32) (y0 : Int32) (y1 : Int32) : Option Int32 :=
    dl_nm (y0 + y1) fun v1 =>
    dl_nm (x2 + 1) fun v2 =>
    k4 v1 v2
def mo_worthOf_b43 (N : Nat) (g : dl_Sg) (k4 : Int32 → Int32 → Option Int32) (x2 : Int32) (y0 : Int32) : Option Int32 :=
    mo_worthOf_b44 N g k4 x2 y0 (0 : Int32)
def mo_worthOf_b4 (N : Nat) (g : dl_Sg) : Nat → Int32 → Int32 → Option Int32
  | 0, _, _ => none
  | n + 1, x1, x2 =>
    if (g 0 0) ≤ x2 then (
    some x1)
    else (
    dl_bi (mo_has (g 0 18) x2) fun r1 =>
    if r1 = 0 then (
    mo_worthOf_b43 N g (mo_worthOf_b4 N g n) x2 x1)
    else (
    dl_gd (dl_in x2 10) (
    if (g 1 x2.toNatClampNeg) = (2 : Int32) then (
    dl_gd (dl_in x2 10) (
    mo_worthOf_b44 N g (mo_worthOf_b4 N g n) x2 x1 (g 2 x2.toNatClampNeg)))
    else (
    mo_worthOf_b43 N g (mo_worthOf_b4 N g n) x2 x1))))
def mo_worthOf (N : Nat) (g : dl_Sg) : Option Int32 :=
    dl_nm (0 : Int32) fun v1 =>
    dl_nm (0 : Int32) fun v2 =>
    mo_worthOf_b4 N g N v1 v2
def mo_turned_b29 (N : Nat) (k4 : Int32 → Int32 → Int32 → Option Int32) (x0 : Int32) (x2 : Int32) (y0 : Int32) (y1 : Int32) : Option Int32 :=
    dl_nm (y0 ||| y1) fun v1 =>
    dl_nm (x2 + 1) fun v2 =>
    k4 x0 v1 v2
def mo_turned_b4 (N : Nat) : Nat → Int32 → Int32 → Int32 → Option Int32
  | 0, _, _, _ => none
  | n + 1, x0, x1, x2 =>
    if (16 : Int32) ≤ x2 then (
    some x1)
    else (
    dl_bi (mo_has x0 x2) fun r1 =>
    if r1 = 0 then (
    mo_turned_b29 N (mo_turned_b4 N n) x0 x2 x1 (0 : Int32))
    else (
    mo_turned_b29 N (mo_turned_b4 N n) x0 x2 x1 ((1 : Int32) <<< (((15 : Int32) - x2) &&& 31))))
def mo_turned (N : Nat) (x0 : Int32) : Option Int32 :=
    dl_nm (0 : Int32) fun v1 =>
    dl_nm (0 : Int32) fun v2 =>
    mo_turned_b4 N N x0 v1 v2
def mo_know_b199 (N : Nat) (k115 : Int32 → dl_Sg → Option dl_Sg) (x1 : Int32) (y1 : Int32) (g : dl_Sg) : Option dl_Sg :=
    dl_nm (dl_s2 g 0 24 y1) fun g1 =>
    dl_nm (x1 + 1) fun v2 =>
    k115 v2 g1
def mo_know_b191 (N : Nat) (k115 : Int32 → dl_Sg → Option dl_Sg) (x1 : Int32) (x2 : Int32) (g : dl_Sg) : Option dl_Sg :=
    mo_know_b199 N k115 x1 x2 g
def mo_know_b175 (N : Nat) (k115 : Int32 → dl_Sg → Option dl_Sg) (x1 : Int32) (x2 : Int32) (y1 : Int32) (g : dl_Sg) : Option dl_Sg :=
    dl_nm (dl_s2 g 0 25 y1) fun g1 =>
    if x1 = 0 then (
    mo_know_b191 N k115 x1 x2 g1)
    else (
    if (g1 0 24) ≤ x2 then (
    mo_know_b199 N k115 x1 (g1 0 24) g1)
    else (
    mo_know_b191 N k115 x1 x2 g1))
def mo_know_b150 (N : Nat) (k115 : Int32 → dl_Sg → Option dl_Sg) (x1 : Int32) (x2 : Int32) (g : dl_Sg) : Option dl_Sg :=
    mo_know_b175 N k115 x1 x2 (1 : Int32) g
def mo_know_b115 (N : Nat) : Nat → Int32 → dl_Sg → Option dl_Sg
  | 0, _, _ => none
  | n + 1, x1, g =>
    if (g 0 20) ≤ x1 then (
    some g)
    else (
    dl_gd (dl_in x1 65536) (
    dl_gd (dl_in x1 65536) (
    dl_nm ((g 22 x1.toNatClampNeg) - (g 23 x1.toNatClampNeg)) fun v1 =>
    if x1 = 0 then (
    mo_know_b150 N (mo_know_b115 N n) x1 v1 g)
    else (
    if (g 0 24) ≤ v1 then (
    if v1 = (g 0 24) then (
    mo_know_b175 N (mo_know_b115 N n) x1 v1 ((g 0 25) + (1 : Int32)) g)
    else (
    mo_know_b175 N (mo_know_b115 N n) x1 v1 (g 0 25) g))
    else (
    mo_know_b150 N (mo_know_b115 N n) x1 v1 g)))))
def mo_know_b96 (N : Nat) (k21 : Int32 → dl_Sg → Option dl_Sg) (x1 : Int32) (g : dl_Sg) : Option dl_Sg :=
    dl_nm (x1 + (-1)) fun v1 =>
    k21 v1 g
def mo_know_b21 (N : Nat) : Nat → Int32 → dl_Sg → Option dl_Sg
  | 0, _, _ => none
  | n + 1, x1, g =>
    if x1 < 0 then (
    dl_nm (dl_s2 g 0 24 (-1000000 : Int32)) fun g1 =>
    dl_nm (dl_s2 g1 0 25 (0 : Int32)) fun g2 =>
    dl_nm (0 : Int32) fun v3 =>
    mo_know_b115 N N v3 g2)
    else (
    dl_bi (mo_turned N x1) fun r4 =>
    dl_nm r4 fun v5 =>
    if (v5 &&& ((g 0 7) ^^^ (-1 : Int32))) = 0 then (
    dl_b2 (mo_treeOf N g v5) fun r6 g7 =>
    if r6 = 0 then (
    dl_gd (dl_in (g7 0 20) 65536) (dl_nm (dl_wr g7 21 (g7 0 20) v5) fun g8 =>
    dl_bi (mo_costOf N g8 v5) fun r9 =>
    dl_gd (dl_in (g8 0 20) 65536) (dl_nm (dl_wr g8 22 (g8 0 20) r9) fun g10 =>
    dl_bi (mo_worthOf N g10) fun r11 =>
    dl_gd (dl_in (g10 0 20) 65536) (dl_nm (dl_wr g10 23 (g10 0 20) r11) fun g12 =>
    dl_nm (dl_s2 g12 0 20 ((g12 0 20) + (1 : Int32))) fun g13 =>
    mo_know_b96 N (mo_know_b21 N n) x1 g13))))
    else (
    mo_know_b96 N (mo_know_b21 N n) x1 g7))
    else (
    mo_know_b96 N (mo_know_b21 N n) x1 g))
def mo_know (N : Nat) (g : dl_Sg) : Option dl_Sg :=
    if (g 0 19) = 0 then (
    dl_nm (dl_s2 g 0 19 (1 : Int32)) fun g1 =>
    dl_nm (dl_s2 g1 0 20 (0 : Int32)) fun g2 =>
    dl_nm (65535 : Int32) fun v3 =>
    mo_know_b21 N N v3 g2)
    else (
    some g)
def mo_isBest (g : dl_Sg) (x1 : Int32) : Option Int32 :=
    dl_gd (dl_in x1 65536) (
    dl_gd (dl_in x1 65536) (
    if ((g 22 x1.toNatClampNeg) - (g 23 x1.toNatClampNeg)) = (g 0 24) then (
    some (1 : Int32))
    else (
    some (0 : Int32))))
def mo_least (N : Nat) (g : dl_Sg) : Option (Int32 × dl_Sg) :=
    dl_bi (mo_know N g) fun g1 =>
    if (g1 0 20) = 0 then (
    some ((-1000000 : Int32), g1))
    else (
    some (g1 0 24, g1))
def mo_many (N : Nat) (g : dl_Sg) : Option (Int32 × dl_Sg) :=
    dl_bi (mo_know N g) fun g1 =>
    some (g1 0 25, g1)
def mo_nth_b31 (N : Nat) (k4 : Int32 → Int32 → Int32 → Option Int32) (x0 : Int32) (x2 : Int32) (x3 : Int32) : Option Int32 :=
    dl_nm (x3 + 1) fun v1 =>
    k4 x0 x2 v1
def mo_nth_b4 (N : Nat) : Nat → Int32 → Int32 → Int32 → Option Int32
  | 0, _, _, _ => none
  | n + 1, x0, x2, x3 =>
    if (16 : Int32) ≤ x3 then (
    some (-1 : Int32))
    else (
    if x2 < 0 then (
    some (-1 : Int32))
    else (
    dl_bi (mo_has x0 x3) fun r1 =>
    if r1 = 0 then (
    mo_nth_b31 N (mo_nth_b4 N n) x0 x2 x3)
    else (
    if x2 = 0 then (
    some x3)
    else (
    dl_nm (x2 + (-1)) fun v2 =>
    mo_nth_b31 N (mo_nth_b4 N n) x0 v2 x3))))
def mo_nth (N : Nat) (x0 : Int32) (x1 : Int32) : Option Int32 :=
    dl_nm x1 fun v1 =>
    dl_nm (0 : Int32) fun v2 =>
    mo_nth_b4 N N x0 v1 v2
def mo_best_b50 (N : Nat) (k9 : Int32 → Int32 → Int32 → dl_Sg → Option (Int32 × dl_Sg)) (x2 : Int32) (x3 : Int32) (x4 : Int32) (g : dl_Sg) : Option (Int32 × dl_Sg) :=
    dl_nm (x4 + 1) fun v1 =>
    k9 x2 x3 v1 g
def mo_best_b9 (N : Nat) : Nat → Int32 → Int32 → Int32 → dl_Sg → Option (Int32 × dl_Sg)
  | 0, _, _, _, _ => none
  | n + 1, x2, x3, x4, g =>
    if (g 0 20) ≤ x4 then (
    some ((-1 : Int32), g))
    else (
    if x3 < 0 then (
    some ((-1 : Int32), g))
    else (
    dl_bi (mo_isBest g x4) fun r1 =>
    if r1 = 0 then (
    mo_best_b50 N (mo_best_b9 N n) x2 x3 x4 g)
    else (
    if x3 = 0 then (
    dl_gd (dl_in x4 65536) (
    dl_bi (mo_nth N (g 21 x4.toNatClampNeg) x2) fun r2 =>
    some (r2, g)))
    else (
    dl_nm (x3 + (-1)) fun v3 =>
    mo_best_b50 N (mo_best_b9 N n) x2 v3 x4 g))))
def mo_best (N : Nat) (g : dl_Sg) (x1 : Int32) (x2 : Int32) : Option (Int32 × dl_Sg) :=
    dl_bi (mo_know N g) fun g1 =>
    dl_nm x1 fun v2 =>
    dl_nm (0 : Int32) fun v3 =>
    mo_best_b9 N N x2 v2 v3 g1
def mo_must_b60 (N : Nat) (k25 : Int32 → Int32 → Int32 → dl_Sg → Option (Int32 × dl_Sg)) (x1 : Int32) (x3 : Int32) (y0 : Int32) (y1 : Int32) (g : dl_Sg) : Option (Int32 × dl_Sg) :=
    dl_nm (y0 + y1) fun v1 =>
    dl_nm (x3 + 1) fun v2 =>
    k25 x1 v1 v2 g
def mo_must_b59 (N : Nat) (k25 : Int32 → Int32 → Int32 → dl_Sg → Option (Int32 × dl_Sg)) (x1 : Int32) (x3 : Int32) (y0 : Int32) (g : dl_Sg) : Option (Int32 × dl_Sg) :=
    mo_must_b60 N k25 x1 x3 y0 (0 : Int32) g
def mo_must_b25 (N : Nat) : Nat → Int32 → Int32 → Int32 → dl_Sg → Option (Int32 × dl_Sg)
  | 0, _, _, _, _ => none
  | n + 1, x1, x2, x3, g =>
    if (g 0 20) ≤ x3 then (
    if x2 = (g 0 25) then (
    some ((2 : Int32), g))
    else (
    if x2 ≤ 0 then (
    some ((0 : Int32), g))
    else (
    some ((1 : Int32), g))))
    else (
    dl_bi (mo_isBest g x3) fun r3 =>
    if r3 = 0 then (
    mo_must_b59 N (mo_must_b25 N n) x1 x3 x2 g)
    else (
    dl_gd (dl_in x3 65536) (
    dl_bi (mo_has (g 21 x3.toNatClampNeg) x1) fun r4 =>
    if r4 = 0 then (
    mo_must_b59 N (mo_must_b25 N n) x1 x3 x2 g)
    else (
    mo_must_b60 N (mo_must_b25 N n) x1 x3 x2 (1 : Int32) g))))
def mo_must (N : Nat) (g : dl_Sg) (x1 : Int32) : Option (Int32 × dl_Sg) :=
    dl_bi (mo_know N g) fun g1 =>
    dl_bi (mo_isStreet g1 x1) fun r2 =>
    if r2 = 0 then (
    some ((-1 : Int32), g1))
    else (
    if (g1 0 20) = 0 then (
    some ((-1 : Int32), g1))
    else (
    dl_nm (0 : Int32) fun v3 =>
    dl_nm (0 : Int32) fun v4 =>
    mo_must_b25 N N x1 v3 v4 g1))
def mo_most_b47 (N : Nat) (k9 : Int32 → Int32 → Int32 → dl_Sg → Option (Int32 × dl_Sg)) (x1 : Int32) (x3 : Int32) (y0 : Int32) (g : dl_Sg) : Option (Int32 × dl_Sg) :=
    dl_nm y0 fun v1 =>
    dl_nm (x3 + 1) fun v2 =>
    k9 x1 v1 v2 g
def mo_most_b46 (N : Nat) (k9 : Int32 → Int32 → Int32 → dl_Sg → Option (Int32 × dl_Sg)) (x1 : Int32) (x2 : Int32) (x3 : Int32) (g : dl_Sg) : Option (Int32 × dl_Sg) :=
    mo_most_b47 N k9 x1 x3 x2 g
def mo_most_b9 (N : Nat) : Nat → Int32 → Int32 → Int32 → dl_Sg → Option (Int32 × dl_Sg)
  | 0, _, _, _, _ => none
  | n + 1, x1, x2, x3, g =>
    if (g 0 20) ≤ x3 then (
    some (x2, g))
    else (
    dl_gd (dl_in x3 65536) (
    if x1 < (g 22 x3.toNatClampNeg) then (
    mo_most_b46 N (mo_most_b9 N n) x1 x2 x3 g)
    else (
    dl_gd (dl_in x3 65536) (
    if (g 23 x3.toNatClampNeg) ≤ x2 then (
    mo_most_b46 N (mo_most_b9 N n) x1 x2 x3 g)
    else (
    dl_gd (dl_in x3 65536) (
    mo_most_b47 N (mo_most_b9 N n) x1 x3 (g 23 x3.toNatClampNeg) g))))))
def mo_most (N : Nat) (g : dl_Sg) (x1 : Int32) : Option (Int32 × dl_Sg) :=
    dl_bi (mo_know N g) fun g1 =>
    dl_nm (-1000000 : Int32) fun v2 =>
    dl_nm (0 : Int32) fun v3 =>
    mo_most_b9 N N x1 v2 v3 g1
def mo_link_b105 (N : Nat) (g : dl_Sg) (k6 : Int32 → Int32 → Int32 → Int32 → Option Int32) (x1 : Int32) (x2 : Int32) (x4 : Int32) (y0 : Int32) : Option Int32 :=
    dl_nm y0 fun v1 =>
    dl_nm (x4 + 1) fun v2 =>
    k6 x1 x2 v1 v2
def mo_link_b104 (N : Nat) (g : dl_Sg) (k6 : Int32 → Int32 → Int32 → Int32 → Option Int32) (x1 : Int32) (x2 : Int32) (x3 : Int32) (x4 : Int32) : Option Int32 :=
    mo_link_b105 N g k6 x1 x2 x4 x3
def mo_link_b76 (N : Nat) (g : dl_Sg) (k6 : Int32 → Int32 → Int32 → Int32 → Option Int32) (x1 : Int32) (x2 : Int32) (x3 : Int32) (x4 : Int32) (y0 : Int32) : Option Int32 :=
    dl_nm y0 fun v1 =>
    if v1 = 0 then (
    mo_link_b104 N g k6 x1 x2 x3 x4)
    else (
    dl_gd (dl_in x4 16) (
    if x3 ≤ (g 6 x4.toNatClampNeg) then (
    mo_link_b104 N g k6 x1 x2 x3 x4)
    else (
    dl_gd (dl_in x4 16) (
    mo_link_b105 N g k6 x1 x2 x4 (g 6 x4.toNatClampNeg)))))
def mo_link_b75 (N : Nat) (g : dl_Sg) (k6 : Int32 → Int32 → Int32 → Int32 → Option Int32) (x1 : Int32) (x2 : Int32) (x3 : Int32) (x4 : Int32) : Option Int32 :=
    mo_link_b76 N g k6 x1 x2 x3 x4 (0 : Int32)
def mo_link_b71 (N : Nat) (g : dl_Sg) (k6 : Int32 → Int32 → Int32 → Int32 → Option Int32) (x1 : Int32) (x2 : Int32) (x3 : Int32) (x4 : Int32) : Option Int32 :=
    mo_link_b76 N g k6 x1 x2 x3 x4 (1 : Int32)
def mo_link_b49 (N : Nat) (g : dl_Sg) (k6 : Int32 → Int32 → Int32 → Int32 → Option Int32) (x1 : Int32) (x2 : Int32) (x3 : Int32) (x4 : Int32) : Option Int32 :=
    dl_gd (dl_in x4 16) (
    if (g 4 x4.toNatClampNeg) = x2 then (
    dl_gd (dl_in x4 16) (
    if (g 5 x4.toNatClampNeg) = x1 then (
    mo_link_b71 N g k6 x1 x2 x3 x4)
    else (
    mo_link_b75 N g k6 x1 x2 x3 x4)))
    else (
    mo_link_b75 N g k6 x1 x2 x3 x4))
def mo_link_b6 (N : Nat) (g : dl_Sg) : Nat → Int32 → Int32 → Int32 → Int32 → Option Int32
  | 0, _, _, _, _ => none
  | n + 1, x1, x2, x3, x4 =>
    if (g 0 3) ≤ x4 then (
    some x3)
    else (
    dl_bi (mo_has (g 0 7) x4) fun r1 =>
    if r1 = 0 then (
    mo_link_b75 N g (mo_link_b6 N g n) x1 x2 x3 x4)
    else (
    dl_gd (dl_in x4 16) (
    if (g 4 x4.toNatClampNeg) = x1 then (
    dl_gd (dl_in x4 16) (
    if (g 5 x4.toNatClampNeg) = x2 then (
    mo_link_b71 N g (mo_link_b6 N g n) x1 x2 x3 x4)
    else (
    mo_link_b49 N g (mo_link_b6 N g n) x1 x2 x3 x4)))
    else (
    mo_link_b49 N g (mo_link_b6 N g n) x1 x2 x3 x4))))
def mo_link (N : Nat) (g : dl_Sg) (x1 : Int32) (x2 : Int32) : Option Int32 :=
    dl_nm (100000000 : Int32) fun v1 =>
    dl_nm (0 : Int32) fun v2 =>
    mo_link_b6 N g N x1 x2 v1 v2
def mo_goes_b58 (N : Nat) (g : dl_Sg) (x2 : Int32) (y0 : Int32) (y1 : Int32) : Option Int32 :=
    dl_gd (dl_in x2 10) (
    some ((y0 + y1) + (g 26 x2.toNatClampNeg)))
def mo_goes_b57 (N : Nat) (g : dl_Sg) (x2 : Int32) (y0 : Int32) : Option Int32 :=
    mo_goes_b58 N g x2 y0 (0 : Int32)
def mo_goes_b26 (N : Nat) (g : dl_Sg) : Option Int32 :=
    some (100000000 : Int32)
def mo_goes (N : Nat) (g : dl_Sg) (x1 : Int32) (x2 : Int32) (x3 : Int32) : Option Int32 :=
    dl_bi (mo_link N g x1 x2) fun r1 =>
    dl_nm r1 fun v2 =>
    if v2 = (100000000 : Int32) then (
    mo_goes_b26 N g )
    else (
    dl_gd (dl_in x2 10) (
    if (g 26 x2.toNatClampNeg) = (100000000 : Int32) then (
    mo_goes_b26 N g )
    else (
    if x2 = x3 then (
    mo_goes_b57 N g x2 v2)
    else (
    dl_gd (dl_in x2 10) (
    if (g 1 x2.toNatClampNeg) = (4 : Int32) then (
    dl_gd (dl_in x2 10) (
    mo_goes_b58 N g x2 v2 (g 2 x2.toNatClampNeg)))
    else (
    mo_goes_b57 N g x2 v2))))))
def mo_fars_b118 (N : Nat) (k35 : Int32 → Int32 → dl_Sg → Option dl_Sg) (k45 : Int32 → Int32 → Int32 → dl_Sg → Option dl_Sg) (k56 : Int32 → Int32 → Int32 → Int32 → dl_Sg → Option dl_Sg) (x1 : Int32) (x2 : Int32) (x3 : Int32) (x4 : Int32) (y1 : Int32) (y2 : Int32) (g : dl_Sg) : Option dl_Sg :=
    dl_gd (dl_in y1 10) (dl_nm (dl_wr g 26 y1 y2) fun g1 =>
    dl_nm (x4 + 1) fun v2 =>
    k56 x1 x2 x3 v2 g1)
def mo_fars_b89 (N : Nat) (k35 : Int32 → Int32 → dl_Sg → Option dl_Sg) (k45 : Int32 → Int32 → Int32 → dl_Sg → Option dl_Sg) (k56 : Int32 → Int32 → Int32 → Int32 → dl_Sg → Option dl_Sg) (x1 : Int32) (x2 : Int32) (x3 : Int32) (x4 : Int32) (y0 : Int32) (g : dl_Sg) : Option dl_Sg :=
    dl_nm y0 fun v1 =>
    dl_gd (dl_in x3 10) (
    if (g 26 x3.toNatClampNeg) ≤ v1 then (
    dl_gd (dl_in x3 10) (
    mo_fars_b118 N k35 k45 k56 x1 x2 x3 x4 x3 (g 26 x3.toNatClampNeg) g))
    else (
    mo_fars_b118 N k35 k45 k56 x1 x2 x3 x4 x3 v1 g))
def mo_fars_b76 (N : Nat) (k35 : Int32 → Int32 → dl_Sg → Option dl_Sg) (k45 : Int32 → Int32 → Int32 → dl_Sg → Option dl_Sg) (k56 : Int32 → Int32 → Int32 → Int32 → dl_Sg → Option dl_Sg) (x1 : Int32) (x2 : Int32) (x3 : Int32) (x4 : Int32) (g : dl_Sg) : Option dl_Sg :=
    mo_fars_b89 N k35 k45 k56 x1 x2 x3 x4 (100000000 : Int32) g
def mo_fars_b56 (N : Nat) (k35 : Int32 → Int32 → dl_Sg → Option dl_Sg) (k45 : Int32 → Int32 → Int32 → dl_Sg → Option dl_Sg) : Nat → Int32 → Int32 → Int32 → Int32 → dl_Sg → Option dl_Sg
  | 0, _, _, _, _, _ => none
  | n + 1, x1, x2, x3, x4, g =>
    if (g 0 0) ≤ x4 then (
    dl_nm (x3 + 1) fun v1 =>
    k45 x1 x2 v1 g)
    else (
    if x4 = x3 then (
    mo_fars_b76 N k35 k45 (mo_fars_b56 N k35 k45 n) x1 x2 x3 x4 g)
    else (
    if x3 = x1 then (
    mo_fars_b76 N k35 k45 (mo_fars_b56 N k35 k45 n) x1 x2 x3 x4 g)
    else (
    dl_bi (mo_goes N g x3 x4 x1) fun r2 =>
    mo_fars_b89 N k35 k45 (mo_fars_b56 N k35 k45 n) x1 x2 x3 x4 r2 g)))
def mo_fars_b45 (N : Nat) (k35 : Int32 → Int32 → dl_Sg → Option dl_Sg) : Nat → Int32 → Int32 → Int32 → dl_Sg → Option dl_Sg
  | 0, _, _, _, _ => none
  | n + 1, x1, x2, x3, g =>
    if (g 0 0) ≤ x3 then (
    dl_nm (x2 + 1) fun v1 =>
    k35 x1 v1 g)
    else (
    dl_nm (0 : Int32) fun v2 =>
    mo_fars_b56 N k35 (mo_fars_b45 N k35 n) N x1 x2 x3 v2 g)
def mo_fars_b35 (N : Nat) : Nat → Int32 → Int32 → dl_Sg → Option dl_Sg
  | 0, _, _, _ => none
  | n + 1, x1, x2, g =>
    if (g 0 0) ≤ x2 then (
    some g)
    else (
    dl_nm (0 : Int32) fun v1 =>
    mo_fars_b45 N (mo_fars_b35 N n) N x1 x2 v1 g)
def mo_fars_b26 (N : Nat) (k2 : Int32 → Int32 → dl_Sg → Option dl_Sg) (x1 : Int32) (x2 : Int32) (y1 : Int32) (y2 : Int32) (g : dl_Sg) : Option dl_Sg :=
    dl_gd (dl_in y1 10) (dl_nm (dl_wr g 26 y1 y2) fun g1 =>
    dl_nm (x2 + 1) fun v2 =>
    k2 x1 v2 g1)
def mo_fars_b2 (N : Nat) : Nat → Int32 → Int32 → dl_Sg → Option dl_Sg
  | 0, _, _, _ => none
  | n + 1, x1, x2, g =>
    if (g 0 0) ≤ x2 then (
    dl_nm (0 : Int32) fun v1 =>
    mo_fars_b35 N N x1 v1 g)
    else (
    if x2 = x1 then (
    mo_fars_b26 N (mo_fars_b2 N n) x1 x2 x2 (0 : Int32) g)
    else (
    mo_fars_b26 N (mo_fars_b2 N n) x1 x2 x2 (100000000 : Int32) g))
def mo_fars (N : Nat) (g : dl_Sg) (x1 : Int32) : Option dl_Sg :=
    dl_nm (0 : Int32) fun v1 =>
    mo_fars_b2 N N x1 v1 g
def mo_apart0 (N : Nat) (g : dl_Sg) (x1 : Int32) (x2 : Int32) : Option (Int32 × dl_Sg) :=
    dl_bi (mo_fars N g x2) fun g1 =>
    dl_gd (dl_in x1 10) (
    some (g1 26 x1.toNatClampNeg, g1))
def mo_apart (N : Nat) (g : dl_Sg) (x1 : Int32) (x2 : Int32) : Option (Int32 × dl_Sg) :=
    dl_bi (mo_isPlace g x1) fun r1 =>
    if r1 = 0 then (
    some ((-1000000 : Int32), g))
    else (
    dl_bi (mo_isPlace g x2) fun r2 =>
    if r2 = 0 then (
    some ((-1000000 : Int32), g))
    else (
    dl_b2 (mo_apart0 N g x1 x2) fun r3 g4 =>
    dl_nm r3 fun v5 =>
    if v5 = (100000000 : Int32) then (
    some ((-1000000 : Int32), g4))
    else (
    some (v5, g4))))
def mo_way_b82 (N : Nat) (k39 : Int32 → Int32 → Int32 → Int32 → dl_Sg → Option (Int32 × dl_Sg)) (k56 : Int32 → Int32 → Int32 → Int32 → Int32 → dl_Sg → Option (Int32 × dl_Sg)) (x2 : Int32) (x3 : Int32) (x4 : Int32) (x5 : Int32) (x6 : Int32) (g : dl_Sg) : Option (Int32 × dl_Sg) :=
    dl_nm (x6 + 1) fun v1 =>
    k56 x2 x3 x4 x5 v1 g
def mo_way_b56 (N : Nat) (k39 : Int32 → Int32 → Int32 → Int32 → dl_Sg → Option (Int32 × dl_Sg)) : Nat → Int32 → Int32 → Int32 → Int32 → Int32 → dl_Sg → Option (Int32 × dl_Sg)
  | 0, _, _, _, _, _, _ => none
  | n + 1, x2, x3, x4, x5, x6, g =>
    if x6 = x4 then (
    mo_way_b82 N k39 (mo_way_b56 N k39 n) x2 x3 x4 x5 x6 g)
    else (
    dl_bi (mo_goes N g x4 x6 x2) fun r1 =>
    dl_gd (dl_in x4 10) (
    if r1 = (g 26 x4.toNatClampNeg) then (
    dl_nm x6 fun v2 =>
    dl_nm (x5 + 1) fun v3 =>
    k39 x2 x3 v2 v3 g)
    else (
    mo_way_b82 N k39 (mo_way_b56 N k39 n) x2 x3 x4 x5 x6 g)))
def mo_way_b39 (N : Nat) : Nat → Int32 → Int32 → Int32 → Int32 → dl_Sg → Option (Int32 × dl_Sg)
  | 0, _, _, _, _, _ => none
  | n + 1, x2, x3, x4, x5, g =>
    if x3 ≤ x5 then (
    some (x4, g))
    else (
    if x4 = x2 then (
    some ((-1 : Int32), g))
    else (
    dl_nm (0 : Int32) fun v1 =>
    mo_way_b56 N (mo_way_b39 N n) N x2 x3 x4 x5 v1 g))
def mo_way (N : Nat) (g : dl_Sg) (x1 : Int32) (x2 : Int32) (x3 : Int32) : Option (Int32 × dl_Sg) :=
    dl_bi (mo_isPlace g x1) fun r1 =>
    if r1 = 0 then (
    some ((-1 : Int32), g))
    else (
    dl_bi (mo_isPlace g x2) fun r2 =>
    if r2 = 0 then (
    some ((-1 : Int32), g))
    else (
    if x3 < 0 then (
    some ((-1 : Int32), g))
    else (
    dl_b2 (mo_apart0 N g x1 x2) fun r3 g4 =>
    if r3 = (100000000 : Int32) then (
    some ((-1 : Int32), g4))
    else (
    dl_nm x1 fun v5 =>
    dl_nm (0 : Int32) fun v6 =>
    mo_way_b39 N N x2 x3 v5 v6 g4))))
def mo_span_b133 (N : Nat) (k19 : Int32 → Int32 → Int32 → dl_Sg → Option (Int32 × dl_Sg)) (k34 : Int32 → Int32 → Int32 → Int32 → Int32 → Int32 → dl_Sg → Option (Int32 × dl_Sg)) (k52 : Int32 → Int32 → Int32 → Int32 → Int32 → Int32 → Int32 → dl_Sg → Option (Int32 × dl_Sg)) (x1 : Int32) (x2 : Int32) (x3 : Int32) (x4 : Int32) (x6 : Int32) (x7 : Int32) (y0 : Int32) (g : dl_Sg) : Option (Int32 × dl_Sg) :=
    dl_nm y0 fun v1 =>
    dl_nm (x7 + 1) fun v2 =>
    k52 x1 x2 x3 x4 v1 x6 v2 g
def mo_span_b119 (N : Nat) (k19 : Int32 → Int32 → Int32 → dl_Sg → Option (Int32 × dl_Sg)) (k34 : Int32 → Int32 → Int32 → Int32 → Int32 → Int32 → dl_Sg → Option (Int32 × dl_Sg)) (k52 : Int32 → Int32 → Int32 → Int32 → Int32 → Int32 → Int32 → dl_Sg → Option (Int32 × dl_Sg)) (x1 : Int32) (x2 : Int32) (x3 : Int32) (x5 : Int32) (x6 : Int32) (x7 : Int32) (x8 : Int32) (y0 : Int32) (g : dl_Sg) : Option (Int32 × dl_Sg) :=
    dl_nm y0 fun v1 =>
    if x8 = 0 then (
    mo_span_b133 N k19 k34 k52 x1 x2 x3 v1 x6 x7 x5 g)
    else (
    mo_span_b133 N k19 k34 k52 x1 x2 x3 v1 x6 x7 x7 g)
def mo_span_b100 (N : Nat) (k19 : Int32 → Int32 → Int32 → dl_Sg → Option (Int32 × dl_Sg)) (k34 : Int32 → Int32 → Int32 → Int32 → Int32 → Int32 → dl_Sg → Option (Int32 × dl_Sg)) (k52 : Int32 → Int32 → Int32 → Int32 → Int32 → Int32 → Int32 → dl_Sg → Option (Int32 × dl_Sg)) (x1 : Int32) (x2 : Int32) (x3 : Int32) (x4 : Int32) (x5 : Int32) (x6 : Int32) (x7 : Int32) (y0 : Int32) (g : dl_Sg) : Option (Int32 × dl_Sg) :=
    dl_nm y0 fun v1 =>
    if v1 = 0 then (
    mo_span_b119 N k19 k34 k52 x1 x2 x3 x5 x6 x7 v1 x4 g)
    else (
    dl_gd (dl_in x7 10) (
    mo_span_b119 N k19 k34 k52 x1 x2 x3 x5 x6 x7 v1 (g 26 x7.toNatClampNeg) g))
def mo_span_b99 (N : Nat) (k19 : Int32 → Int32 → Int32 → dl_Sg → Option (Int32 × dl_Sg)) (k34 : Int32 → Int32 → Int32 → Int32 → Int32 → Int32 → dl_Sg → Option (Int32 × dl_Sg)) (k52 : Int32 → Int32 → Int32 → Int32 → Int32 → Int32 → Int32 → dl_Sg → Option (Int32 × dl_Sg)) (x1 : Int32) (x2 : Int32) (x3 : Int32) (x4 : Int32) (x5 : Int32) (x6 : Int32) (x7 : Int32) (g : dl_Sg) : Option (Int32 × dl_Sg) :=
    mo_span_b100 N k19 k34 k52 x1 x2 x3 x4 x5 x6 x7 (0 : Int32) g
def mo_span_b52 (N : Nat) (k19 : Int32 → Int32 → Int32 → dl_Sg → Option (Int32 × dl_Sg)) (k34 : Int32 → Int32 → Int32 → Int32 → Int32 → Int32 → dl_Sg → Option (Int32 × dl_Sg)) : Nat → Int32 → Int32 → Int32 → Int32 → Int32 → Int32 → Int32 → dl_Sg → Option (Int32 × dl_Sg)
  | 0, _, _, _, _, _, _, _, _ => none
  | n + 1, x1, x2, x3, x4, x5, x6, x7, g =>
    if (g 0 0) ≤ x7 then (
    dl_nm (x6 + 1) fun v1 =>
    k34 x1 x2 x3 x4 x5 v1 g)
    else (
    dl_bi (mo_has (x1 &&& (x2 ^^^ (-1 : Int32))) x7) fun r2 =>
    if r2 = 0 then (
    mo_span_b99 N k19 k34 (mo_span_b52 N k19 k34 n) x1 x2 x3 x4 x5 x6 x7 g)
    else (
    dl_bi (mo_has x2 x6) fun r3 =>
    if r3 = 0 then (
    mo_span_b99 N k19 k34 (mo_span_b52 N k19 k34 n) x1 x2 x3 x4 x5 x6 x7 g)
    else (
    dl_gd (dl_in x7 10) (
    if x4 ≤ (g 26 x7.toNatClampNeg) then (
    mo_span_b99 N k19 k34 (mo_span_b52 N k19 k34 n) x1 x2 x3 x4 x5 x6 x7 g)
    else (
    mo_span_b100 N k19 k34 (mo_span_b52 N k19 k34 n) x1 x2 x3 x4 x5 x6 x7 (1 : Int32) g)))))
def mo_span_b34 (N : Nat) (k19 : Int32 → Int32 → Int32 → dl_Sg → Option (Int32 × dl_Sg)) : Nat → Int32 → Int32 → Int32 → Int32 → Int32 → Int32 → dl_Sg → Option (Int32 × dl_Sg)
  | 0, _, _, _, _, _, _, _ => none
  | n + 1, x1, x2, x3, x4, x5, x6, g =>
    if (g 0 0) ≤ x6 then (
    if x5 = (-1 : Int32) then (
    some ((-1000000 : Int32), g))
    else (
    dl_nm (x2 ||| ((1 : Int32) <<< (x5 &&& 31))) fun v1 =>
    dl_nm (x3 + x4) fun v2 =>
    k19 x1 v1 v2 g))
    else (
    dl_bi (mo_fars N g x6) fun g4 =>
    dl_nm (0 : Int32) fun v5 =>
    mo_span_b52 N k19 (mo_span_b34 N k19 n) N x1 x2 x3 x4 x5 x6 v5 g4)
def mo_span_b19 (N : Nat) : Nat → Int32 → Int32 → Int32 → dl_Sg → Option (Int32 × dl_Sg)
  | 0, _, _, _, _ => none
  | n + 1, x1, x2, x3, g =>
    if x2 = x1 then (
    some (x3, g))
    else (
    dl_nm (100000000 : Int32) fun v1 =>
    dl_nm (-1 : Int32) fun v2 =>
    dl_nm (0 : Int32) fun v3 =>
    mo_span_b34 N (mo_span_b19 N n) N x1 x2 x3 v1 v2 v3 g)
def mo_span (N : Nat) (g : dl_Sg) : Option (Int32 × dl_Sg) :=
    dl_bi (mo_taps N g) fun r1 =>
    dl_nm r1 fun v2 =>
    if v2 = 0 then (
    some ((-1000000 : Int32), g))
    else (
    dl_nm (v2 &&& (-v2)) fun v3 =>
    dl_nm (0 : Int32) fun v4 =>
    mo_span_b19 N N v2 v3 v4 g)
def mo_isActive (N : Nat) (g : dl_Sg) (x1 : Int32) : Option Int32 :=
    dl_gd (dl_in x1 20) (
    dl_bi (mo_taps N g) fun r1 =>
    if ((g 28 x1.toNatClampNeg) &&& r1) = 0 then (
    some (0 : Int32))
    else (
    dl_gd (dl_in x1 20) (
    dl_bi (mo_has (g 28 x1.toNatClampNeg) (g 0 31)) fun r2 =>
    if r2 = 0 then (
    some (1 : Int32))
    else (
    some (0 : Int32)))))
def mo_room_b65 (N : Nat) (g : dl_Sg) (k13 : Int32 → Int32 → Int32 → Option Int32) (x1 : Int32) (x3 : Int32) (y0 : Int32) (y1 : Int32) : Option Int32 :=
    dl_nm (y0 - y1) fun v1 =>
    dl_nm (x3 + 1) fun v2 =>
    k13 x1 v1 v2
def mo_room_b13 (N : Nat) (g : dl_Sg) : Nat → Int32 → Int32 → Int32 → Option Int32
  | 0, _, _, _ => none
  | n + 1, x1, x2, x3 =>
    if (g 0 27) ≤ x3 then (
    some x2)
    else (
    dl_gd (dl_in x3 20) (
    dl_gd (dl_in x1 16) (
    dl_bi (mo_has (g 28 x3.toNatClampNeg) (g 4 x1.toNatClampNeg)) fun r1 =>
    dl_gd (dl_in x3 20) (
    dl_gd (dl_in x1 16) (
    dl_bi (mo_has (g 28 x3.toNatClampNeg) (g 5 x1.toNatClampNeg)) fun r2 =>
    if r1 = r2 then (
    mo_room_b65 N g (mo_room_b13 N g n) x1 x3 x2 (0 : Int32))
    else (
    dl_gd (dl_in x3 20) (
    mo_room_b65 N g (mo_room_b13 N g n) x1 x3 x2 (g 29 x3.toNatClampNeg))))))))
def mo_room (N : Nat) (g : dl_Sg) (x1 : Int32) : Option Int32 :=
    dl_gd (dl_in x1 16) (
    dl_nm ((1024 : Int32) * (g 6 x1.toNatClampNeg)) fun v1 =>
    dl_nm (0 : Int32) fun v2 =>
    mo_room_b13 N g N x1 v1 v2)
def mo_sides_b57 (N : Nat) (g : dl_Sg) (x3 : Int32) (y0 : Int32) : Option Int32 :=
    dl_bi (mo_isActive N g x3) fun r1 =>
    if r1 = 0 then (
    some (y0 + (0 : Int32)))
    else (
    some (y0 + (1 : Int32)))
def mo_sides_b40 (N : Nat) (g : dl_Sg) : Option Int32 :=
    some (0 : Int32)
def mo_sides (N : Nat) (g : dl_Sg) (x1 : Int32) : Option Int32 :=
    dl_gd (dl_in x1 16) (
    dl_gd (dl_in (g 4 x1.toNatClampNeg) 10) (
    dl_nm (g 30 (g 4 x1.toNatClampNeg).toNatClampNeg) fun v1 =>
    dl_gd (dl_in x1 16) (
    dl_gd (dl_in (g 5 x1.toNatClampNeg) 10) (
    dl_nm (g 30 (g 5 x1.toNatClampNeg).toNatClampNeg) fun v2 =>
    dl_bi (mo_has (g 0 7) x1) fun r3 =>
    if r3 = 0 then (
    mo_sides_b40 N g )
    else (
    if v1 = v2 then (
    mo_sides_b40 N g )
    else (
    dl_bi (mo_isActive N g v1) fun r4 =>
    if r4 = 0 then (
    mo_sides_b57 N g v2 (0 : Int32))
    else (
    mo_sides_b57 N g v2 (1 : Int32))))))))
def mo_joins_b110 (N : Nat) (k59 : Int32 → Int32 → Int32 → dl_Sg → Option dl_Sg) (x2 : Int32) (x3 : Int32) (x4 : Int32) (y1 : Int32) (y2 : Int32) (g : dl_Sg) : Option dl_Sg :=
    dl_gd (dl_in y1 10) (dl_nm (dl_wr g 30 y1 y2) fun g1 =>
    dl_nm (x4 + 1) fun v2 =>
    k59 x2 x3 v2 g1)
def mo_joins_b96 (N : Nat) (k59 : Int32 → Int32 → Int32 → dl_Sg → Option dl_Sg) (x2 : Int32) (x3 : Int32) (x4 : Int32) (y1 : Int32) (g : dl_Sg) : Option dl_Sg :=
    mo_joins_b110 N k59 x2 x3 x4 y1 (g 0 27) g
def mo_joins_b59 (N : Nat) : Nat → Int32 → Int32 → Int32 → dl_Sg → Option dl_Sg
  | 0, _, _, _, _ => none
  | n + 1, x2, x3, x4, g =>
    if (g 0 0) ≤ x4 then (
    dl_nm (dl_s2 g 0 27 ((g 0 27) + (1 : Int32))) fun g1 =>
    some g1)
    else (
    dl_gd (dl_in x4 10) (
    if (g 30 x4.toNatClampNeg) = x2 then (
    mo_joins_b96 N (mo_joins_b59 N n) x2 x3 x4 x4 g)
    else (
    dl_gd (dl_in x4 10) (
    if (g 30 x4.toNatClampNeg) = x3 then (
    mo_joins_b96 N (mo_joins_b59 N n) x2 x3 x4 x4 g)
    else (
    dl_gd (dl_in x4 10) (
    mo_joins_b110 N (mo_joins_b59 N n) x2 x3 x4 x4 (g 30 x4.toNatClampNeg) g))))))
def mo_joins (N : Nat) (g : dl_Sg) (x1 : Int32) : Option dl_Sg :=
    dl_gd (dl_in x1 16) (
    dl_gd (dl_in (g 4 x1.toNatClampNeg) 10) (
    dl_nm (g 30 (g 4 x1.toNatClampNeg).toNatClampNeg) fun v1 =>
    dl_gd (dl_in x1 16) (
    dl_gd (dl_in (g 5 x1.toNatClampNeg) 10) (
    dl_nm (g 30 (g 5 x1.toNatClampNeg).toNatClampNeg) fun v2 =>
    dl_gd (dl_in v1 20) (
    dl_gd (dl_in v2 20) (
    dl_gd (dl_in (g 0 27) 20) (dl_nm (dl_wr g 28 (g 0 27) ((g 28 v1.toNatClampNeg) ||| (g 28 v2.toNatClampNeg))) fun g3 =>
    dl_gd (dl_in (g3 0 27) 20) (dl_nm (dl_wr g3 29 (g3 0 27) (0 : Int32)) fun g4 =>
    dl_nm (0 : Int32) fun v5 =>
    mo_joins_b59 N N v1 v2 v5 g4))))))))
def mo_begin_b85 (N : Nat) (k20 : Int32 → dl_Sg → Option dl_Sg) (x1 : Int32) (y1 : Int32) (g : dl_Sg) : Option dl_Sg :=
    dl_nm (dl_s2 g 0 31 y1) fun g1 =>
    dl_nm (x1 + (-1)) fun v2 =>
    k20 v2 g1
def mo_begin_b81 (N : Nat) (k20 : Int32 → dl_Sg → Option dl_Sg) (x1 : Int32) (g : dl_Sg) : Option dl_Sg :=
    mo_begin_b85 N k20 x1 (g 0 31) g
def mo_begin_b77 (N : Nat) (k20 : Int32 → dl_Sg → Option dl_Sg) (x1 : Int32) (g : dl_Sg) : Option dl_Sg :=
    mo_begin_b85 N k20 x1 x1 g
def mo_begin_b20 (N : Nat) : Nat → Int32 → dl_Sg → Option dl_Sg
  | 0, _, _ => none
  | n + 1, x1, g =>
    if x1 < 0 then (
    some g)
    else (
    dl_gd (dl_in x1 20) (dl_nm (dl_wr g 28 x1 ((1 : Int32) <<< (x1 &&& 31))) fun g1 =>
    dl_gd (dl_in x1 20) (dl_nm (dl_wr g1 29 x1 (0 : Int32)) fun g2 =>
    dl_gd (dl_in x1 10) (dl_nm (dl_wr g2 30 x1 x1) fun g3 =>
    dl_bi (mo_isTap g3 x1) fun r4 =>
    if r4 = 0 then (
    mo_begin_b81 N (mo_begin_b20 N n) x1 g3)
    else (
    if (g3 0 31) = (-1 : Int32) then (
    mo_begin_b77 N (mo_begin_b20 N n) x1 g3)
    else (
    dl_gd (dl_in (g3 0 31) 10) (
    if (g3 1 (g3 0 31).toNatClampNeg) = (3 : Int32) then (
    mo_begin_b81 N (mo_begin_b20 N n) x1 g3)
    else (
    mo_begin_b77 N (mo_begin_b20 N n) x1 g3))))))))
def mo_begin (N : Nat) (g : dl_Sg) : Option dl_Sg :=
    dl_nm (dl_s2 g 0 27 (g 0 0)) fun g1 =>
    dl_nm (dl_s2 g1 0 31 (-1 : Int32)) fun g2 =>
    dl_nm ((g2 0 0) - (1 : Int32)) fun v3 =>
    mo_begin_b20 N N v3 g2
def mo_someActive_b34 (N : Nat) (g : dl_Sg) (k4 : Int32 → Int32 → Option Int32) (x2 : Int32) (y0 : Int32) : Option Int32 :=
    dl_nm y0 fun v1 =>
    dl_nm (x2 + 1) fun v2 =>
    k4 v1 v2
def mo_someActive_b29 (N : Nat) (g : dl_Sg) (k4 : Int32 → Int32 → Option Int32) (x2 : Int32) : Option Int32 :=
    mo_someActive_b34 N g k4 x2 (1 : Int32)
def mo_someActive_b4 (N : Nat) (g : dl_Sg) : Nat → Int32 → Int32 → Option Int32
  | 0, _, _ => none
  | n + 1, x1, x2 =>
    if (g 0 0) ≤ x2 then (
    dl_gd (dl_bo x1) (some x1))
    else (
    if x1 = 0 then (
    dl_gd (dl_in x2 10) (
    dl_bi (mo_isActive N g (g 30 x2.toNatClampNeg)) fun r1 =>
    if r1 = 0 then (
    mo_someActive_b34 N g (mo_someActive_b4 N g n) x2 (0 : Int32))
    else (
    mo_someActive_b29 N g (mo_someActive_b4 N g n) x2)))
    else (
    mo_someActive_b29 N g (mo_someActive_b4 N g n) x2))
def mo_someActive (N : Nat) (g : dl_Sg) : Option Int32 :=
    dl_nm (0 : Int32) fun v1 =>
    dl_nm (0 : Int32) fun v2 =>
    mo_someActive_b4 N g N v1 v2
def mo_isNow_b31 (N : Nat) (g : dl_Sg) (k4 : Int32 → Int32 → Int32 → Option Int32) (x1 : Int32) (x3 : Int32) (y0 : Int32) : Option Int32 :=
    dl_nm y0 fun v1 =>
    dl_nm (x3 + 1) fun v2 =>
    k4 x1 v1 v2
def mo_isNow_b26 (N : Nat) (g : dl_Sg) (k4 : Int32 → Int32 → Int32 → Option Int32) (x1 : Int32) (x3 : Int32) : Option Int32 :=
    mo_isNow_b31 N g k4 x1 x3 (1 : Int32)
def mo_isNow_b4 (N : Nat) (g : dl_Sg) : Nat → Int32 → Int32 → Int32 → Option Int32
  | 0, _, _, _ => none
  | n + 1, x1, x2, x3 =>
    if (g 0 0) ≤ x3 then (
    dl_gd (dl_bo x2) (some x2))
    else (
    if x2 = 0 then (
    dl_gd (dl_in x3 10) (
    if (g 30 x3.toNatClampNeg) = x1 then (
    mo_isNow_b26 N g (mo_isNow_b4 N g n) x1 x3)
    else (
    mo_isNow_b31 N g (mo_isNow_b4 N g n) x1 x3 (0 : Int32))))
    else (
    mo_isNow_b26 N g (mo_isNow_b4 N g n) x1 x3))
def mo_isNow (N : Nat) (g : dl_Sg) (x1 : Int32) : Option Int32 :=
    dl_nm (0 : Int32) fun v1 =>
    dl_nm (0 : Int32) fun v2 =>
    mo_isNow_b4 N g N x1 v1 v2
def mo_raise_b118 (N : Nat) (x1 : Int32) (g : dl_Sg) : Option (Int32 × dl_Sg) :=
    if (100000000 : Int32) ≤ x1 then (
    some ((0 : Int32), g))
    else (
    some ((1 : Int32), g))
def mo_raise_b110 (N : Nat) (k68 : Int32 → Int32 → dl_Sg → Option (Int32 × dl_Sg)) (x1 : Int32) (x2 : Int32) (y1 : Int32) (y2 : Int32) (y3 : Int32) (g : dl_Sg) : Option (Int32 × dl_Sg) :=
    dl_gd (dl_in y1 20) (dl_nm (dl_wr g 29 y1 (y2 + y3)) fun g1 =>
    dl_nm (x2 + 1) fun v2 =>
    k68 x1 v2 g1)
def mo_raise_b109 (N : Nat) (k68 : Int32 → Int32 → dl_Sg → Option (Int32 × dl_Sg)) (x1 : Int32) (x2 : Int32) (y1 : Int32) (y2 : Int32) (g : dl_Sg) : Option (Int32 × dl_Sg) :=
    mo_raise_b110 N k68 x1 x2 y1 y2 (0 : Int32) g
def mo_raise_b68 (N : Nat) : Nat → Int32 → Int32 → dl_Sg → Option (Int32 × dl_Sg)
  | 0, _, _, _ => none
  | n + 1, x1, x2, g =>
    if (g 0 27) ≤ x2 then (
    mo_raise_b118 N x1 g)
    else (
    if (100000000 : Int32) ≤ x1 then (
    mo_raise_b118 N x1 g)
    else (
    dl_gd (dl_in x2 20) (
    dl_bi (mo_isNow N g x2) fun r1 =>
    if r1 = 0 then (
    mo_raise_b109 N (mo_raise_b68 N n) x1 x2 x2 (g 29 x2.toNatClampNeg) g)
    else (
    dl_bi (mo_isActive N g x2) fun r2 =>
    if r2 = 0 then (
    mo_raise_b109 N (mo_raise_b68 N n) x1 x2 x2 (g 29 x2.toNatClampNeg) g)
    else (
    mo_raise_b110 N (mo_raise_b68 N n) x1 x2 x2 (g 29 x2.toNatClampNeg) x1 g)))))
def mo_raise_b60 (N : Nat) (k5 : Int32 → Int32 → dl_Sg → Option (Int32 × dl_Sg)) (x1 : Int32) (x2 : Int32) (g : dl_Sg) : Option (Int32 × dl_Sg) :=
    dl_nm (x2 + 1) fun v1 =>
    k5 x1 v1 g
def mo_raise_b59 (N : Nat) (k5 : Int32 → Int32 → dl_Sg → Option (Int32 × dl_Sg)) (x2 : Int32) (y0 : Int32) (g : dl_Sg) : Option (Int32 × dl_Sg) :=
    dl_nm y0 fun v1 =>
    mo_raise_b60 N k5 v1 x2 g
def mo_raise_b5 (N : Nat) : Nat → Int32 → Int32 → dl_Sg → Option (Int32 × dl_Sg)
  | 0, _, _, _ => none
  | n + 1, x1, x2, g =>
    if (g 0 3) ≤ x2 then (
    dl_nm (0 : Int32) fun v1 =>
    mo_raise_b68 N N x1 v1 g)
    else (
    dl_bi (mo_sides N g x2) fun r2 =>
    dl_nm r2 fun v3 =>
    if v3 ≤ 0 then (
    mo_raise_b60 N (mo_raise_b5 N n) x1 x2 g)
    else (
    dl_bi (mo_room N g x2) fun r4 =>
    dl_nm r4 fun v5 =>
    if v3 ≤ v5 then (
    dl_gd (dl_ne0 v3) (
    if x1 ≤ (v5 / v3) then (
    mo_raise_b59 N (mo_raise_b5 N n) x2 x1 g)
    else (
    dl_gd (dl_ne0 v3) (
    mo_raise_b59 N (mo_raise_b5 N n) x2 (v5 / v3) g))))
    else (
    dl_bi (mo_joins N g x2) fun g7 =>
    some ((1 : Int32), g7))))
def mo_raise (N : Nat) (g : dl_Sg) : Option (Int32 × dl_Sg) :=
    dl_nm (100000000 : Int32) fun v1 =>
    dl_nm (0 : Int32) fun v2 =>
    mo_raise_b5 N N v1 v2 g
def mo_raiseAll_b14 (N : Nat) : Nat → dl_Sg → Option (Int32 × dl_Sg)
  | 0, _ => none
  | n + 1, g =>
    dl_bi (mo_someActive N g) fun r1 =>
    if r1 = 0 then (
    some ((0 : Int32), g))
    else (
    dl_b2 (mo_raise N g) fun r2 g3 =>
    if r2 = 0 then (
    some ((-2 : Int32), g3))
    else (
    mo_raiseAll_b14 N n g3))
def mo_raiseAll (N : Nat) (g : dl_Sg) : Option (Int32 × dl_Sg) :=
    dl_bi (mo_begin N g) fun g1 =>
    if (g1 0 31) = (-1 : Int32) then (
    some ((-1 : Int32), g1))
    else (
    mo_raiseAll_b14 N N g1)
def mo_walls_b32 (N : Nat) (k9 : Int32 → Int32 → Int32 → dl_Sg → Option (Int32 × dl_Sg)) (x1 : Int32) (x3 : Int32) (y0 : Int32) (y1 : Int32) (g : dl_Sg) : Option (Int32 × dl_Sg) :=
    dl_nm (y0 + y1) fun v1 =>
    dl_nm (x3 + 1) fun v2 =>
    k9 x1 v1 v2 g
def mo_walls_b9 (N : Nat) : Nat → Int32 → Int32 → Int32 → dl_Sg → Option (Int32 × dl_Sg)
  | 0, _, _, _, _ => none
  | n + 1, x1, x2, x3, g =>
    if (g 0 27) ≤ x3 then (
    if x1 = 0 then (
    some (x2, g))
    else (
    some (x1, g)))
    else (
    dl_gd (dl_in x3 20) (
    if (g 29 x3.toNatClampNeg) ≤ 0 then (
    mo_walls_b32 N (mo_walls_b9 N n) x1 x3 x2 (0 : Int32) g)
    else (
    mo_walls_b32 N (mo_walls_b9 N n) x1 x3 x2 (1 : Int32) g)))
def mo_walls (N : Nat) (g : dl_Sg) : Option (Int32 × dl_Sg) :=
    dl_b2 (mo_raiseAll N g) fun r1 g2 =>
    dl_nm r1 fun v3 =>
    dl_nm (0 : Int32) fun v4 =>
    dl_nm (0 : Int32) fun v5 =>
    mo_walls_b9 N N v3 v4 v5 g2
def mo_wall_b75 (N : Nat) (k23 : Int32 → Int32 → Int32 → dl_Sg → Option (Int32 × dl_Sg)) (x2 : Int32) (x3 : Int32) (x4 : Int32) (g : dl_Sg) : Option (Int32 × dl_Sg) :=
    dl_nm (x4 + 1) fun v1 =>
    k23 x2 x3 v1 g
def mo_wall_b23 (N : Nat) : Nat → Int32 → Int32 → Int32 → dl_Sg → Option (Int32 × dl_Sg)
  | 0, _, _, _, _ => none
  | n + 1, x2, x3, x4, g =>
    if (g 0 27) ≤ x4 then (
    some ((-1 : Int32), g))
    else (
    if x3 < 0 then (
    some ((-1 : Int32), g))
    else (
    dl_gd (dl_in x4 20) (
    if (g 29 x4.toNatClampNeg) ≤ 0 then (
    mo_wall_b75 N (mo_wall_b23 N n) x2 x3 x4 g)
    else (
    if x3 = 0 then (
    if x2 = 0 then (
    dl_gd (dl_in x4 20) (
    some (g 28 x4.toNatClampNeg, g)))
    else (
    dl_gd (dl_in x4 20) (
    some (g 29 x4.toNatClampNeg, g))))
    else (
    dl_nm (x3 + (-1)) fun v2 =>
    mo_wall_b75 N (mo_wall_b23 N n) x2 v2 x4 g)))))
def mo_wall (N : Nat) (g : dl_Sg) (x1 : Int32) (x2 : Int32) : Option (Int32 × dl_Sg) :=
    dl_b2 (mo_raiseAll N g) fun r1 g2 =>
    if r1 = 0 then (
    dl_bi (mo_in x2 (0 : Int32) (1 : Int32)) fun r3 =>
    if r3 = 0 then (
    some ((-1 : Int32), g2))
    else (
    dl_nm x1 fun v4 =>
    dl_nm (0 : Int32) fun v5 =>
    mo_wall_b23 N N x2 v4 v5 g2))
    else (
    some ((-1 : Int32), g2))
def mo_bound_b14 (N : Nat) : Nat → Int32 → Int32 → dl_Sg → Option (Int32 × dl_Sg)
  | 0, _, _, _ => none
  | n + 1, x1, x2, g =>
    if (g 0 27) ≤ x2 then (
    some (x1, g))
    else (
    dl_gd (dl_in x2 20) (
    dl_nm (x1 + (g 29 x2.toNatClampNeg)) fun v1 =>
    dl_nm (x2 + 1) fun v2 =>
    mo_bound_b14 N n v1 v2 g))
def mo_bound (N : Nat) (g : dl_Sg) : Option (Int32 × dl_Sg) :=
    dl_b2 (mo_raiseAll N g) fun r1 g2 =>
    if r1 = 0 then (
    dl_nm (0 : Int32) fun v3 =>
    dl_nm (0 : Int32) fun v4 =>
    mo_bound_b14 N N v3 v4 g2)
    else (
    some ((-1000000 : Int32), g2))
def mo_lay_b19 (g : dl_Sg) : Option (Int32 × dl_Sg) :=
    dl_b2 (mo_refused g (1 : Int32)) fun r1 g2 =>
    some (r1, g2)
def mo_lay (g : dl_Sg) (x1 : Int32) : Option (Int32 × dl_Sg) :=
    dl_bi (mo_isStreet g x1) fun r1 =>
    if r1 = 0 then (
    mo_lay_b19 g)
    else (
    dl_bi (mo_has (g 0 7) x1) fun r2 =>
    if r2 = 0 then (
    mo_lay_b19 g)
    else (
    dl_nm (dl_s2 g 0 8 ((g 0 8) ^^^ ((1 : Int32) <<< (x1 &&& 31)))) fun g3 =>
    dl_b2 (mo_done g3 (((g3 0 8) >>> (x1 &&& 31)) &&& (1 : Int32))) fun r4 g5 =>
    some (r4, g5)))
def mo_clear (N : Nat) (g : dl_Sg) : Option (Int32 × dl_Sg) :=
    dl_bi (mo_bits N (g 0 8)) fun r1 =>
    dl_nm r1 fun v2 =>
    dl_nm (dl_s2 g 0 8 (0 : Int32)) fun g3 =>
    dl_b2 (mo_done g3 v2) fun r4 g5 =>
    some (r4, g5)
def mo_why (N : Nat) (g : dl_Sg) : Option (Int32 × dl_Sg) :=
    dl_b2 (mo_treeOf N g (g 0 8)) fun r1 g2 =>
    some (r1, g2)
def mo_tagOf (N : Nat) (g : dl_Sg) (x1 : Int32) : Option (Int32 × dl_Sg) :=
    dl_b2 (mo_treeOf N g x1) fun r1 g2 =>
    if r1 = 0 then (
    dl_bi (mo_costOf N g2 x1) fun r3 =>
    dl_bi (mo_worthOf N g2) fun r4 =>
    some (r3 - r4, g2))
    else (
    some ((-1000000 : Int32), g2))
def mo_tag (N : Nat) (g : dl_Sg) : Option (Int32 × dl_Sg) :=
    dl_b2 (mo_tagOf N g (g 0 8)) fun r1 g2 =>
    some (r1, g2)
def mo_trimmed_b111 (N : Nat) (g : dl_Sg) (x2 : Int32) (y0 : Int32) (y1 : Int32) : Option Int32 :=
    if y0 < y1 then (
    some (-1 : Int32))
    else (
    some x2)
def mo_trimmed_b88 (N : Nat) (g : dl_Sg) (x1 : Int32) (x2 : Int32) (y0 : Int32) (y1 : Int32) : Option Int32 :=
    dl_nm (y0 + y1) fun v1 =>
    dl_gd (dl_in x1 10) (
    if (g 1 x1.toNatClampNeg) = (2 : Int32) then (
    dl_gd (dl_in x1 10) (
    mo_trimmed_b111 N g x2 v1 (g 2 x1.toNatClampNeg)))
    else (
    mo_trimmed_b111 N g x2 v1 (0 : Int32)))
def mo_trimmed_b62 (N : Nat) (g : dl_Sg) (x1 : Int32) (x2 : Int32) : Option Int32 :=
    dl_gd (dl_in x2 16) (
    dl_gd (dl_in x1 10) (
    if (g 1 x1.toNatClampNeg) = (4 : Int32) then (
    dl_gd (dl_in x1 10) (
    mo_trimmed_b88 N g x1 x2 (g 6 x2.toNatClampNeg) (g 2 x1.toNatClampNeg)))
    else (
    mo_trimmed_b88 N g x1 x2 (g 6 x2.toNatClampNeg) (0 : Int32))))
def mo_trimmed_b56 (N : Nat) (g : dl_Sg) (k25 : Int32 → Int32 → Option Int32) (x1 : Int32) (x2 : Int32) : Option Int32 :=
    dl_nm (x2 + 1) fun v1 =>
    k25 x1 v1
def mo_trimmed_b25 (N : Nat) (g : dl_Sg) : Nat → Int32 → Int32 → Option Int32
  | 0, _, _ => none
  | n + 1, x1, x2 =>
    dl_bi (mo_has (g 0 8) x2) fun r1 =>
    if r1 = 0 then (
    mo_trimmed_b56 N g (mo_trimmed_b25 N g n) x1 x2)
    else (
    dl_gd (dl_in x2 16) (
    if (g 4 x2.toNatClampNeg) = x1 then (
    mo_trimmed_b62 N g x1 x2)
    else (
    dl_gd (dl_in x2 16) (
    if (g 5 x2.toNatClampNeg) = x1 then (
    mo_trimmed_b62 N g x1 x2)
    else (
    mo_trimmed_b56 N g (mo_trimmed_b25 N g n) x1 x2)))))
def mo_trimmed (N : Nat) (g : dl_Sg) (x1 : Int32) : Option Int32 :=
    dl_bi (mo_degree N g x1 (g 0 8)) fun r1 =>
    if r1 = (1 : Int32) then (
    dl_bi (mo_isTap g x1) fun r2 =>
    if r2 = 0 then (
    dl_nm (0 : Int32) fun v3 =>
    mo_trimmed_b25 N g N x1 v3)
    else (
    some (-1 : Int32)))
    else (
    some (-1 : Int32))
def mo_trim_b69 (N : Nat) (k21 : Int32 → Int32 → dl_Sg → Option (Int32 × dl_Sg)) (x1 : Int32) (y0 : Int32) (g : dl_Sg) : Option (Int32 × dl_Sg) :=
    dl_nm y0 fun v1 =>
    k21 x1 v1 g
def mo_trim_b57 (N : Nat) (k21 : Int32 → Int32 → dl_Sg → Option (Int32 × dl_Sg)) (x1 : Int32) (x2 : Int32) (x3 : Int32) (g : dl_Sg) : Option (Int32 × dl_Sg) :=
    if x3 = (-1 : Int32) then (
    mo_trim_b69 N k21 x1 (x2 + (1 : Int32)) g)
    else (
    mo_trim_b69 N k21 x1 (0 : Int32) g)
def mo_trim_b21 (N : Nat) : Nat → Int32 → Int32 → dl_Sg → Option (Int32 × dl_Sg)
  | 0, _, _, _ => none
  | n + 1, x1, x2, g =>
    if (g 0 0) ≤ x2 then (
    dl_b2 (mo_done g x1) fun r1 g2 =>
    some (r1, g2))
    else (
    dl_bi (mo_trimmed N g x2) fun r3 =>
    dl_nm r3 fun v4 =>
    if v4 = (-1 : Int32) then (
    mo_trim_b57 N (mo_trim_b21 N n) x1 x2 v4 g)
    else (
    dl_nm (dl_s2 g 0 8 ((g 0 8) &&& (((1 : Int32) <<< (v4 &&& 31)) ^^^ (-1 : Int32)))) fun g5 =>
    dl_nm (x1 + 1) fun v6 =>
    mo_trim_b57 N (mo_trim_b21 N n) v6 x2 v4 g5))
def mo_trim (N : Nat) (g : dl_Sg) : Option (Int32 × dl_Sg) :=
    dl_b2 (mo_treeOf N g (g 0 8)) fun r1 g2 =>
    if r1 = 0 then (
    dl_nm (0 : Int32) fun v3 =>
    dl_nm (0 : Int32) fun v4 =>
    mo_trim_b21 N N v3 v4 g2)
    else (
    dl_b2 (mo_refused g2 (3 : Int32)) fun r5 g6 =>
    some (r5, g6))
def mo_better_b122 (N : Nat) (k23 : Int32 → Int32 → dl_Sg → Option (Int32 × dl_Sg)) (k33 : Int32 → Int32 → Int32 → dl_Sg → Option (Int32 × dl_Sg)) (x1 : Int32) (x2 : Int32) (x3 : Int32) (g : dl_Sg) : Option (Int32 × dl_Sg) :=
    dl_nm (x3 + 1) fun v1 =>
    k33 x1 x2 v1 g
def mo_better_b33 (N : Nat) (k23 : Int32 → Int32 → dl_Sg → Option (Int32 × dl_Sg)) : Nat → Int32 → Int32 → Int32 → dl_Sg → Option (Int32 × dl_Sg)
  | 0, _, _, _, _ => none
  | n + 1, x1, x2, x3, g =>
    if (g 0 3) ≤ x3 then (
    dl_nm (x2 + 1) fun v1 =>
    k23 x1 v1 g)
    else (
    dl_bi (mo_has ((g 0 7) &&& ((g 0 8) ^^^ (-1 : Int32))) x2) fun r2 =>
    if r2 = 0 then (
    mo_better_b122 N k23 (mo_better_b33 N k23 n) x1 x2 x3 g)
    else (
    dl_bi (mo_has (g 0 8) x3) fun r3 =>
    if r3 = 0 then (
    mo_better_b122 N k23 (mo_better_b33 N k23 n) x1 x2 x3 g)
    else (
    dl_nm (((g 0 8) &&& (((1 : Int32) <<< (x3 &&& 31)) ^^^ (-1 : Int32))) ||| ((1 : Int32) <<< (x2 &&& 31))) fun v4 =>
    dl_b2 (mo_tagOf N g v4) fun r5 g6 =>
    dl_nm r5 fun v7 =>
    if v7 = (-1000000 : Int32) then (
    mo_better_b122 N k23 (mo_better_b33 N k23 n) x1 x2 x3 g6)
    else (
    if x1 ≤ v7 then (
    mo_better_b122 N k23 (mo_better_b33 N k23 n) x1 x2 x3 g6)
    else (
    dl_nm (dl_s2 g6 0 8 v4) fun g8 =>
    dl_b2 (mo_done g8 (x1 - v7)) fun r9 g10 =>
    some (r9, g10))))))
def mo_better_b23 (N : Nat) : Nat → Int32 → Int32 → dl_Sg → Option (Int32 × dl_Sg)
  | 0, _, _, _ => none
  | n + 1, x1, x2, g =>
    if (g 0 3) ≤ x2 then (
    dl_b2 (mo_done g (0 : Int32)) fun r1 g2 =>
    some (r1, g2))
    else (
    dl_nm (0 : Int32) fun v3 =>
    mo_better_b33 N (mo_better_b23 N n) N x1 x2 v3 g)
def mo_better (N : Nat) (g : dl_Sg) : Option (Int32 × dl_Sg) :=
    dl_b2 (mo_tagOf N g (g 0 8)) fun r1 g2 =>
    dl_nm r1 fun v3 =>
    if v3 = (-1000000 : Int32) then (
    dl_b2 (mo_refused g2 (3 : Int32)) fun r4 g5 =>
    some (r4, g5))
    else (
    dl_nm (0 : Int32) fun v6 =>
    mo_better_b23 N N v3 v6 g2)
def mo_ran_b19 (g : dl_Sg) : Option dl_Sg :=
    dl_nm (dl_s2 g 0 16 ((g 0 16) + (1 : Int32))) fun g1 =>
    some g1
def mo_ran (g : dl_Sg) (x1 : Int32) : Option dl_Sg :=
    if (50 : Int32) ≤ (g 0 16) then (
    mo_ran_b19 g)
    else (
    dl_gd (dl_in (g 0 16) 50) (dl_nm (dl_wr g 15 (g 0 16) x1) fun g1 =>
    mo_ran_b19 g1))
def mo_join0_b16 (N : Nat) (x1 : Int32) (x2 : Int32) (g : dl_Sg) : Option (Int32 × dl_Sg) :=
    dl_bi (mo_ran g (10 : Int32)) fun g1 =>
    dl_bi (mo_degree N g1 x1 (g1 0 7)) fun r2 =>
    dl_gd (dl_in x1 10) (
    if (g1 1 x1.toNatClampNeg) = (3 : Int32) then (
    some ((x2 + r2) + (9 : Int32), g1))
    else (
    some ((x2 + r2) + (0 : Int32), g1)))
def mo_join0 (N : Nat) (g : dl_Sg) (x1 : Int32) (x2 : Int32) : Option (Int32 × dl_Sg) :=
    dl_gd (dl_in x1 10) (
    if (g 1 x1.toNatClampNeg) = (3 : Int32) then (
    dl_bi (mo_ran g (40 : Int32)) fun g1 =>
    mo_join0_b16 N x1 x2 g1)
    else (
    mo_join0_b16 N x1 x2 g))
def mo_cost0_b57 (N : Nat) (x1 : Int32) (y0 : Int32) (y1 : Int32) (g : dl_Sg) : Option (Int32 × dl_Sg) :=
    dl_gd (dl_in x1 10) (
    if (g 1 x1.toNatClampNeg) = (4 : Int32) then (
    dl_gd (dl_in x1 10) (
    some ((y0 + y1) + (g 2 x1.toNatClampNeg), g)))
    else (
    some ((y0 + y1) + (0 : Int32), g)))
def mo_cost0_b30 (N : Nat) (x1 : Int32) (x2 : Int32) (g : dl_Sg) : Option (Int32 × dl_Sg) :=
    dl_bi (mo_ran g (11 : Int32)) fun g1 =>
    dl_b2 (mo_join0 N g1 x1 x2) fun r2 g3 =>
    dl_bi (mo_isTap g3 x1) fun r4 =>
    if r4 = 0 then (
    mo_cost0_b57 N x1 (r2 * (2 : Int32)) (0 : Int32) g3)
    else (
    mo_cost0_b57 N x1 (r2 * (2 : Int32)) (1 : Int32) g3)
def mo_cost0_b14 (N : Nat) (x1 : Int32) (x2 : Int32) (g : dl_Sg) : Option (Int32 × dl_Sg) :=
    dl_gd (dl_in x1 10) (
    if (g 1 x1.toNatClampNeg) = (4 : Int32) then (
    dl_bi (mo_ran g (50 : Int32)) fun g1 =>
    mo_cost0_b30 N x1 x2 g1)
    else (
    mo_cost0_b30 N x1 x2 g))
def mo_cost0 (N : Nat) (g : dl_Sg) (x1 : Int32) (x2 : Int32) : Option (Int32 × dl_Sg) :=
    dl_bi (mo_isTap g x1) fun r1 =>
    if r1 = 0 then (
    mo_cost0_b14 N x1 x2 g)
    else (
    dl_bi (mo_ran g (20 : Int32)) fun g2 =>
    mo_cost0_b14 N x1 x2 g2)
def mo_ask0_b32 (x1 : Int32) (x2 : Int32) (g : dl_Sg) : Option (Int32 × dl_Sg) :=
    dl_bi (mo_ran g (12 : Int32)) fun g1 =>
    dl_gd (dl_in x1 10) (
    if (g1 1 x1.toNatClampNeg) = (3 : Int32) then (
    some ((x2 * (3 : Int32)) - x1, g1))
    else (
    dl_gd (dl_in x1 10) (
    if (g1 1 x1.toNatClampNeg) = (2 : Int32) then (
    dl_gd (dl_in x1 10) (
    some ((x2 - x1) * (g1 2 x1.toNatClampNeg), g1)))
    else (
    some (x2 - x1, g1)))))
def mo_ask0_b16 (x1 : Int32) (x2 : Int32) (g : dl_Sg) : Option (Int32 × dl_Sg) :=
    dl_gd (dl_in x1 10) (
    if (g 1 x1.toNatClampNeg) = (3 : Int32) then (
    dl_bi (mo_ran g (41 : Int32)) fun g1 =>
    mo_ask0_b32 x1 x2 g1)
    else (
    mo_ask0_b32 x1 x2 g))
def mo_ask0 (g : dl_Sg) (x1 : Int32) (x2 : Int32) : Option (Int32 × dl_Sg) :=
    dl_gd (dl_in x1 10) (
    if (g 1 x1.toNatClampNeg) = (2 : Int32) then (
    dl_bi (mo_ran g (30 : Int32)) fun g1 =>
    mo_ask0_b16 x1 x2 g1)
    else (
    mo_ask0_b16 x1 x2 g))
def mo_placeTell (N : Nat) (g : dl_Sg) (x1 : Int32) (x2 : Int32) : Option (Int32 × dl_Sg) :=
    dl_bi (mo_ran g (13 : Int32)) fun g1 =>
    dl_b2 (mo_cost0 N g1 x1 x2) fun r2 g3 =>
    dl_nm r2 fun v4 =>
    dl_b2 (mo_ask0 g3 x1 x2) fun r5 g6 =>
    some (v4 ^^^ r5, g6)
def mo_tell0 (N : Nat) (g : dl_Sg) (x1 : Int32) (x2 : Int32) : Option (Int32 × dl_Sg) :=
    dl_bi (mo_isTap g x1) fun r1 =>
    if r1 = 0 then (
    dl_gd (dl_in x1 10) (
    if (g 1 x1.toNatClampNeg) = (4 : Int32) then (
    dl_bi (mo_ran g (51 : Int32)) fun g2 =>
    dl_b2 (mo_ask0 g2 x1 x2) fun r3 g4 =>
    dl_nm r3 fun v5 =>
    dl_b2 (mo_placeTell N g4 x1 x2) fun r6 g7 =>
    some (v5 + r6, g7))
    else (
    dl_b2 (mo_placeTell N g x1 x2) fun r8 g9 =>
    some (r8, g9))))
    else (
    dl_bi (mo_ran g (21 : Int32)) fun g11 =>
    dl_b2 (mo_placeTell N g11 x1 (x2 - (1 : Int32))) fun r12 g13 =>
    some (r12, g13))
def mo_act_b76 (N : Nat) (y1 : Int32) (g : dl_Sg) : Option (Int32 × dl_Sg) :=
    dl_b2 (mo_done g y1) fun r1 g2 =>
    some (r1, g2)
def mo_act_b17 (N : Nat) (g : dl_Sg) : Option (Int32 × dl_Sg) :=
    dl_b2 (mo_refused g (1 : Int32)) fun r1 g2 =>
    some (r1, g2)
def mo_act (N : Nat) (g : dl_Sg) (x1 : Int32) (x2 : Int32) (x3 : Int32) : Option (Int32 × dl_Sg) :=
    dl_bi (mo_isPlace g x1) fun r1 =>
    if r1 = 0 then (
    mo_act_b17 N g)
    else (
    dl_bi (mo_in x2 (0 : Int32) (3 : Int32)) fun r2 =>
    if r2 = 0 then (
    mo_act_b17 N g)
    else (
    dl_nm (dl_s2 g 0 16 (0 : Int32)) fun g3 =>
    if x2 = 0 then (
    dl_b2 (mo_join0 N g3 x1 x3) fun r4 g5 =>
    mo_act_b76 N r4 g5)
    else (
    if x2 = (1 : Int32) then (
    dl_b2 (mo_cost0 N g3 x1 x3) fun r6 g7 =>
    mo_act_b76 N r6 g7)
    else (
    if x2 = (2 : Int32) then (
    dl_b2 (mo_ask0 g3 x1 x3) fun r8 g9 =>
    mo_act_b76 N r8 g9)
    else (
    dl_b2 (mo_tell0 N g3 x1 x3) fun r10 g11 =>
    mo_act_b76 N r10 g11)))))
def mo_trace_b20 (g : dl_Sg) (x1 : Int32) (y0 : Int32) (y1 : Int32) (y2 : Int32) : Option Int32 :=
    dl_bi (mo_in y0 y1 (y2 - (1 : Int32))) fun r1 =>
    if r1 = 0 then (
    some (-1 : Int32))
    else (
    dl_gd (dl_in x1 50) (
    some (g 15 x1.toNatClampNeg)))
def mo_trace (g : dl_Sg) (x1 : Int32) : Option Int32 :=
    if (50 : Int32) ≤ (g 0 16) then (
    mo_trace_b20 g x1 x1 (0 : Int32) (50 : Int32))
    else (
    mo_trace_b20 g x1 x1 (0 : Int32) (g 0 16))
def mo_map_b65 (N : Nat) : Nat → Int32 → Int32 → dl_Sg → Option (Int32 × dl_Sg)
  | 0, _, _, _ => none
  | n + 1, x1, x4, g =>
    if (20 : Int32) ≤ x4 then (
    dl_b2 (mo_done g (1 : Int32)) fun r1 g2 =>
    some (r1, g2))
    else (
    dl_gd (dl_in (((20 : Int32) * x1) + x4) 100) (dl_nm (dl_wr g 13 (((20 : Int32) * x1) + x4) (0 : Int32)) fun g3 =>
    dl_nm (x4 + 1) fun v4 =>
    mo_map_b65 N n x1 v4 g3))
def mo_map_b61 (N : Nat) (x1 : Int32) (y1 : Int32) (y2 : Int32) (g : dl_Sg) : Option (Int32 × dl_Sg) :=
    dl_gd (dl_in y1 5) (dl_nm (dl_wr g 12 y1 y2) fun g1 =>
    dl_nm (0 : Int32) fun v2 =>
    mo_map_b65 N N x1 v2 g1)
def mo_map_b39 (N : Nat) (x1 : Int32) (x2 : Int32) (x3 : Int32) (g : dl_Sg) : Option (Int32 × dl_Sg) :=
    dl_gd (dl_in x1 5) (dl_nm (dl_wr g 11 x1 x2) fun g1 =>
    if x2 = (-1 : Int32) then (
    mo_map_b61 N x1 x1 (0 : Int32) g1)
    else (
    mo_map_b61 N x1 x1 x3 g1))
def mo_map_b33 (N : Nat) (g : dl_Sg) : Option (Int32 × dl_Sg) :=
    dl_b2 (mo_refused g (1 : Int32)) fun r1 g2 =>
    some (r1, g2)
def mo_map (N : Nat) (g : dl_Sg) (x1 : Int32) (x2 : Int32) (x3 : Int32) : Option (Int32 × dl_Sg) :=
    dl_bi (mo_in x1 (0 : Int32) (4 : Int32)) fun r1 =>
    if r1 = 0 then (
    mo_map_b33 N g)
    else (
    dl_bi (mo_in x2 (-1 : Int32) (2 : Int32)) fun r2 =>
    if r2 = 0 then (
    mo_map_b33 N g)
    else (
    if x2 = (-1 : Int32) then (
    mo_map_b39 N x1 x2 x3 g)
    else (
    dl_bi (mo_in x3 (0 : Int32) (20 : Int32)) fun r3 =>
    if r3 = 0 then (
    mo_map_b33 N g)
    else (
    mo_map_b39 N x1 x2 x3 g))))
def mo_cell_b80 (y1 : Int32) (y2 : Int32) (g : dl_Sg) : Option (Int32 × dl_Sg) :=
    dl_gd (dl_in y1 100) (dl_nm (dl_wr g 13 y1 y2) fun g1 =>
    dl_b2 (mo_done g1 (1 : Int32)) fun r2 g3 =>
    some (r2, g3))
def mo_cell (g : dl_Sg) (x1 : Int32) (x2 : Int32) (x3 : Int32) : Option (Int32 × dl_Sg) :=
    dl_bi (mo_in x1 (0 : Int32) (4 : Int32)) fun r1 =>
    if r1 = 0 then (
    dl_b2 (mo_refused g (1 : Int32)) fun r2 g3 =>
    some (r2, g3))
    else (
    dl_gd (dl_in x1 5) (
    if (g 11 x1.toNatClampNeg) = (-1 : Int32) then (
    dl_b2 (mo_refused g (10 : Int32)) fun r4 g5 =>
    some (r4, g5))
    else (
    dl_gd (dl_in x1 5) (
    dl_bi (mo_in x2 (0 : Int32) ((g 12 x1.toNatClampNeg) - (1 : Int32))) fun r6 =>
    if r6 = 0 then (
    dl_b2 (mo_refused g (12 : Int32)) fun r7 g8 =>
    some (r7, g8))
    else (
    dl_gd (dl_in x1 5) (
    if (g 11 x1.toNatClampNeg) = 0 then (
    mo_cell_b80 (((20 : Int32) * x1) + x2) x3.toInt8.toInt32 g)
    else (
    mo_cell_b80 (((20 : Int32) * x1) + x2) x3 g)))))))
def mo_fromMap_b89 (N : Nat) (g : dl_Sg) : Option (Int32 × dl_Sg) :=
    dl_b2 (mo_refused g (12 : Int32)) fun r1 g2 =>
    some (r1, g2)
def mo_fromMap_b18 (N : Nat) (g : dl_Sg) : Option (Int32 × dl_Sg) :=
    dl_b2 (mo_refused g (1 : Int32)) fun r1 g2 =>
    some (r1, g2)
def mo_fromMap (N : Nat) (g : dl_Sg) (x1 : Int32) (x2 : Int32) (x3 : Int32) : Option (Int32 × dl_Sg) :=
    dl_bi (mo_in x1 (0 : Int32) (4 : Int32)) fun r1 =>
    if r1 = 0 then (
    mo_fromMap_b18 N g)
    else (
    dl_bi (mo_in x2 (0 : Int32) (2 : Int32)) fun r2 =>
    if r2 = 0 then (
    mo_fromMap_b18 N g)
    else (
    if (g 0 3) = (16 : Int32) then (
    dl_b2 (mo_refused g (2 : Int32)) fun r3 g4 =>
    some (r3, g4))
    else (
    dl_gd (dl_in x1 5) (
    if (g 11 x1.toNatClampNeg) = (-1 : Int32) then (
    dl_b2 (mo_refused g (10 : Int32)) fun r5 g6 =>
    some (r5, g6))
    else (
    dl_gd (dl_in x1 5) (
    if (g 11 x1.toNatClampNeg) = x2 then (
    if x3 < 0 then (
    mo_fromMap_b89 N g)
    else (
    dl_gd (dl_in x1 5) (
    if x3 ≤ ((g 12 x1.toNatClampNeg) - (3 : Int32)) then (
    dl_nm (((20 : Int32) * x1) + x3) fun v7 =>
    dl_gd (dl_in v7 100) (
    dl_gd (dl_in (v7 + (1 : Int32)) 100) (
    dl_gd (dl_in (v7 + (2 : Int32)) 100) (
    dl_bi (mo_isGood g (g 13 v7.toNatClampNeg) (g 13 (v7 + (1 : Int32)).toNatClampNeg) (g 13 (v7 + (2 : Int32)).toNatClampNeg)) fun r8 =>
    if r8 = 0 then (
    dl_b2 (mo_refused g (3 : Int32)) fun r9 g10 =>
    some (r9, g10))
    else (
    dl_gd (dl_in v7 100) (
    dl_gd (dl_in (v7 + (1 : Int32)) 100) (
    dl_gd (dl_in (v7 + (2 : Int32)) 100) (
    dl_b2 (mo_made N g (g 13 v7.toNatClampNeg) (g 13 (v7 + (1 : Int32)).toNatClampNeg) (g 13 (v7 + (2 : Int32)).toNatClampNeg)) fun r11 g12 =>
    some (r11, g12)))))))))
    else (
    mo_fromMap_b89 N g))))
    else (
    dl_b2 (mo_refused g (11 : Int32)) fun r16 g17 =>
    some (r16, g17))))))))
def mo_modulo (x0 : Int32) (x1 : Int32) : Option Int32 :=
    dl_gd (dl_ne0 x1) (
    dl_gd (dl_ne0 x1) (
    some (((x0 - x0 / x1 * x1) + x1) - ((x0 - x0 / x1 * x1) + x1) / x1 * x1)))
def mo_placeTaken_b49 (x1 : Int32) (y0 : Int32) (g : dl_Sg) : Option (Int32 × dl_Sg) :=
    dl_nm y0 fun v1 =>
    if v1 = 0 then (
    dl_b2 (mo_refused g (11 : Int32)) fun r2 g3 =>
    some (r2, g3))
    else (
    dl_gd (dl_in x1 10) (
    dl_b2 (mo_done g (g 1 x1.toNatClampNeg)) fun r4 g5 =>
    some (r4, g5)))
def mo_placeTaken_b48 (x1 : Int32) (g : dl_Sg) : Option (Int32 × dl_Sg) :=
    mo_placeTaken_b49 x1 (0 : Int32) g
def mo_placeTaken_b44 (x1 : Int32) (g : dl_Sg) : Option (Int32 × dl_Sg) :=
    mo_placeTaken_b49 x1 (1 : Int32) g
def mo_placeTaken (g : dl_Sg) (x1 : Int32) (x2 : Int32) : Option (Int32 × dl_Sg) :=
    dl_bi (mo_isPlace g x1) fun r1 =>
    if r1 = 0 then (
    dl_b2 (mo_refused g (10 : Int32)) fun r2 g3 =>
    some (r2, g3))
    else (
    if x2 = 0 then (
    mo_placeTaken_b44 x1 g)
    else (
    dl_gd (dl_in x1 10) (
    if x2 = (g 1 x1.toNatClampNeg) then (
    mo_placeTaken_b44 x1 g)
    else (
    if x2 = (1 : Int32) then (
    dl_gd (dl_in x1 10) (
    if (g 1 x1.toNatClampNeg) = (3 : Int32) then (
    mo_placeTaken_b44 x1 g)
    else (
    mo_placeTaken_b48 x1 g)))
    else (
    mo_placeTaken_b48 x1 g)))))
def mo_copied_b5 (N : Nat) (g : dl_Sg) : Nat → Int32 → Int32 → Int32 → Int32 → Option Int32
  | 0, _, _, _, _ => none
  | n + 1, x1, x2, x3, x4 =>
    if x2 < x4 then (
    some x3)
    else (
    dl_gd (dl_in (((20 : Int32) * x1) + x4) 100) (
    dl_nm (x3 + (g 13 (((20 : Int32) * x1) + x4).toNatClampNeg)) fun v1 =>
    dl_nm (x4 + 1) fun v2 =>
    mo_copied_b5 N g n x1 x2 v1 v2))
def mo_copied (N : Nat) (g : dl_Sg) (x1 : Int32) (x2 : Int32) : Option Int32 :=
    dl_nm (0 : Int32) fun v1 =>
    dl_nm (1 : Int32) fun v2 =>
    mo_copied_b5 N g N x1 x2 v1 v2
def mo_forge_b281 (N : Nat) (g : dl_Sg) : Option (Int32 × dl_Sg) :=
    dl_b2 (mo_refused g (12 : Int32)) fun r1 g2 =>
    some (r1, g2)
def mo_forge_b32 (N : Nat) (g : dl_Sg) : Option (Int32 × dl_Sg) :=
    dl_b2 (mo_refused g (1 : Int32)) fun r1 g2 =>
    some (r1, g2)
def mo_forge (N : Nat) (g : dl_Sg) (x1 : Int32) (x2 : Int32) (x3 : Int32) : Option (Int32 × dl_Sg) :=
    dl_bi (mo_in x1 (0 : Int32) (6 : Int32)) fun r1 =>
    if r1 = 0 then (
    mo_forge_b32 N g)
    else (
    dl_bi (mo_in x2 (-100 : Int32) (100 : Int32)) fun r2 =>
    if r2 = 0 then (
    mo_forge_b32 N g)
    else (
    dl_bi (mo_in x3 (-100 : Int32) (100 : Int32)) fun r3 =>
    if r3 = 0 then (
    mo_forge_b32 N g)
    else (
    dl_bi (mo_modulo x3 (5 : Int32)) fun r4 =>
    dl_nm r4 fun v5 =>
    dl_bi (mo_modulo x3 (10 : Int32)) fun r6 =>
    dl_nm r6 fun v7 =>
    if x1 = 0 then (
    dl_bi (mo_modulo x2 (5 : Int32)) fun r13 =>
    dl_b2 (mo_placeTaken g v7 r13) fun r14 g15 =>
    some (r14, g15))
    else (
    if x1 = 1 then (
    if 0 ≤ x2 then (
    dl_b2 (mo_done g x2) fun r16 g17 =>
    some (r16, g17))
    else (
    dl_b2 (mo_refused g (13 : Int32)) fun r18 g19 =>
    some (r18, g19)))
    else (
    if x1 = 2 then (
    dl_gd (dl_in v5 5) (
    if (g 11 v5.toNatClampNeg) = (-1 : Int32) then (
    dl_b2 (mo_refused g (10 : Int32)) fun r21 g22 =>
    some (r21, g22))
    else (
    dl_gd (dl_in v5 5) (
    if (g 11 v5.toNatClampNeg) = (1 : Int32) then (
    dl_gd (dl_in v5 5) (
    dl_bi (mo_in x2 (0 : Int32) ((g 12 v5.toNatClampNeg) - (1 : Int32))) fun r23 =>
    if r23 = 0 then (
    dl_b2 (mo_refused g (12 : Int32)) fun r24 g25 =>
    some (r24, g25))
    else (
    dl_gd (dl_in (((20 : Int32) * v5) + x2) 100) (
    dl_b2 (mo_done g (g 13 (((20 : Int32) * v5) + x2).toNatClampNeg)) fun r26 g27 =>
    some (r26, g27)))))
    else (
    dl_b2 (mo_refused g (11 : Int32)) fun r29 g30 =>
    some (r29, g30))))))
    else (
    if x1 = 3 then (
    dl_gd (dl_in v5 5) (
    if (g 11 v5.toNatClampNeg) = (-1 : Int32) then (
    dl_b2 (mo_refused g (10 : Int32)) fun r33 g34 =>
    some (r33, g34))
    else (
    dl_gd (dl_in v5 5) (
    if (g 11 v5.toNatClampNeg) = 0 then (
    dl_bi (mo_in x2 (0 : Int32) (3 : Int32)) fun r35 =>
    if r35 = 0 then (
    mo_forge_b281 N g)
    else (
    dl_gd (dl_in v5 5) (
    if (g 12 v5.toNatClampNeg) < ((1 : Int32) + x2) then (
    mo_forge_b281 N g)
    else (
    dl_bi (mo_copied N g v5 x2) fun r36 =>
    dl_b2 (mo_done g r36) fun r37 g38 =>
    some (r37, g38)))))
    else (
    dl_b2 (mo_refused g (11 : Int32)) fun r41 g42 =>
    some (r41, g42))))))
    else (
    if x1 = 4 then (
    dl_bi (mo_isPlace g v7) fun r45 =>
    if r45 = 0 then (
    dl_b2 (mo_done g (0 : Int32)) fun r46 g47 =>
    some (r46, g47))
    else (
    dl_bi (mo_isTap g v7) fun r48 =>
    if r48 = 0 then (
    dl_b2 (mo_refused g (14 : Int32)) fun r49 g50 =>
    some (r49, g50))
    else (
    dl_gd (dl_in v7 10) (
    dl_b2 (mo_done g (g 1 v7.toNatClampNeg)) fun r51 g52 =>
    some (r51, g52)))))
    else (
    if x1 = 5 then (
    if x2 = 0 then (
    dl_b2 (mo_refused g (15 : Int32)) fun r55 g56 =>
    some (r55, g56))
    else (
    dl_gd (dl_ne0 x2) (
    dl_b2 (mo_done g ((1000 : Int32) / x2)) fun r57 g58 =>
    some (r57, g58))))
    else (
    if (x2 &&& (1 : Int32)) = 0 then (
    dl_b2 (mo_refused g (10 : Int32)) fun r8 g9 =>
    some (r8, g9))
    else (
    dl_b2 (mo_done g (1 : Int32)) fun r10 g11 =>
    some (r10, g11)))))))))))
def mo_status (g : dl_Sg) : Option Int32 :=
    some (g 0 14)
