def cc_row (ad : Nat → Nat) : Nat → Option Nat := fun i => match i with
  | 0 => some (ad 28)
  | 1 => some (ad 29)
  | 2 => some (ad 30)
  | 3 => some (ad 31)
  | 4 => some (ad 32)
  | _ => none
def cc_f0 (ad : Nat → Nat) (g : dl_Sg) : List Value := [.ref (ad 1), .ref (ad 2), .ref (ad 3), .ref (ad 4), .ref (ad 5), .int (g 0 5)]
def cc_f1 (ad : Nat → Nat) (g : dl_Sg) : List Value := [.ref (ad 34), .ref (ad 10), .ref (ad 11), .ref (ad 12), .ref (ad 13), .ref (ad 14), .ref (ad 15), .ref (ad 16), .ref (ad 17), .ref (ad 6), .int (g 1 10), .int (g 1 11), .int (g 1 12), .int (g 1 13), .int (g 1 14), .int (g 1 15), .int (g 1 16), .int (g 1 17)]
def cc_f2 (ad : Nat → Nat) (g : dl_Sg) : List Value := [.ref (ad 1), .ref (ad 18), .ref (ad 19)]
def cc_f3 (ad : Nat → Nat) (g : dl_Sg) : List Value := [.ref (ad 1), .ref (ad 20), .ref (ad 21), .ref (ad 33), .int (g 3 4), .int (g 3 5), .int (g 3 6), .int (g 3 7), .int (g 3 8)]
def cc_f4 (ad : Nat → Nat) (g : dl_Sg) : List Value := [.ref (ad 1), .ref (ad 22), .ref (ad 23), .ref (ad 24), .int (g 4 4), .int (g 4 5), .int (g 4 6), .int (g 4 7)]
def cc_f5 (ad : Nat → Nat) (g : dl_Sg) : List Value := [.ref (ad 25), .ref (ad 26), .ref (ad 35)]
def cc_f6 (ad : Nat → Nat) (g : dl_Sg) : List Value := [.ref (ad 27), .int (g 6 1)]
def cc_w (cI cP cII : ClassId) (ad : Nat → Nat) (pr : Nat → Option Nat) (g : dl_Sg) : va_W := [(ad 0, .inr (11, cc_f0 ad g)), (ad 1, .inr (2, cc_f1 ad g)), (ad 2, .inr (8, cc_f2 ad g)), (ad 3, .inr (6, cc_f3 ad g)), (ad 4, .inr (7, cc_f4 ad g)), (ad 5, .inr (1, cc_f5 ad g)), (ad 6, .inr (5, cc_f6 ad g)), (ad 10, .inl (cI, 10, .inl (g 10))), (ad 11, .inl (cI, 10, .inl (g 11))), (ad 12, .inl (cI, 10, .inl (g 12))), (ad 13, .inl (cI, 16, .inl (g 13))), (ad 14, .inl (cI, 16, .inl (g 14))), (ad 15, .inl (cI, 16, .inl (g 15))), (ad 16, .inl (cI, 16, .inl (g 16))), (ad 17, .inl (cI, 10, .inl (g 17))), (ad 18, .inl (cI, 10, .inl (g 18))), (ad 19, .inl (cI, 10, .inl (g 19))), (ad 20, .inl (cI, 10, .inl (g 20))), (ad 21, .inl (cI, 1001, .inl (g 21))), (ad 22, .inl (cI, 20, .inl (g 22))), (ad 23, .inl (cI, 20, .inl (g 23))), (ad 24, .inl (cI, 10, .inl (g 24))), (ad 25, .inl (cI, 5, .inl (g 25))), (ad 26, .inl (cI, 5, .inl (g 26))), (ad 27, .inl (cI, 50, .inl (g 27))), (ad 28, .inl (cI, 20, .inl (g 28))), (ad 29, .inl (cI, 20, .inl (g 29))), (ad 30, .inl (cI, 20, .inl (g 30))), (ad 31, .inl (cI, 20, .inl (g 31))), (ad 32, .inl (cI, 20, .inl (g 32))), (ad 33, .inl (cI, (g 9 0).toNatClampNeg, .inl (g 33))), (ad 34, .inl (cP, 10, .inr (.inr (.inr (.inr pr))))), (ad 35, .inl (cII, 5, .inr (.inr (.inr (.inr (cc_row ad))))))]
section
variable {cI cP cII : ClassId} {ad : Nat → Nat} {pr : Nat → Option Nat} {g : dl_Sg} {R : va_W}
theorem cc_a0 : (cc_w cI cP cII ad pr g ++ R)[0]? = some (ad 0, .inr (11, cc_f0 ad g)) := rfl
theorem cc_p0_5 {v : Int32} : (cc_w cI cP cII ad pr g ++ R).set 0 (ad 0, .inr (11, (cc_f0 ad g).set 5 (.int v))) = cc_w cI cP cII ad pr (dl_s2 g 0 5 v) ++ R := rfl
theorem cc_a1 : (cc_w cI cP cII ad pr g ++ R)[1]? = some (ad 1, .inr (2, cc_f1 ad g)) := rfl
theorem cc_p1_10 {v : Int32} : (cc_w cI cP cII ad pr g ++ R).set 1 (ad 1, .inr (2, (cc_f1 ad g).set 10 (.int v))) = cc_w cI cP cII ad pr (dl_s2 g 1 10 v) ++ R := rfl
theorem cc_p1_11 {v : Int32} : (cc_w cI cP cII ad pr g ++ R).set 1 (ad 1, .inr (2, (cc_f1 ad g).set 11 (.int v))) = cc_w cI cP cII ad pr (dl_s2 g 1 11 v) ++ R := rfl
theorem cc_p1_12 {v : Int32} : (cc_w cI cP cII ad pr g ++ R).set 1 (ad 1, .inr (2, (cc_f1 ad g).set 12 (.int v))) = cc_w cI cP cII ad pr (dl_s2 g 1 12 v) ++ R := rfl
theorem cc_p1_13 {v : Int32} : (cc_w cI cP cII ad pr g ++ R).set 1 (ad 1, .inr (2, (cc_f1 ad g).set 13 (.int v))) = cc_w cI cP cII ad pr (dl_s2 g 1 13 v) ++ R := rfl
theorem cc_p1_14 {v : Int32} : (cc_w cI cP cII ad pr g ++ R).set 1 (ad 1, .inr (2, (cc_f1 ad g).set 14 (.int v))) = cc_w cI cP cII ad pr (dl_s2 g 1 14 v) ++ R := rfl
theorem cc_p1_15 {v : Int32} : (cc_w cI cP cII ad pr g ++ R).set 1 (ad 1, .inr (2, (cc_f1 ad g).set 15 (.int v))) = cc_w cI cP cII ad pr (dl_s2 g 1 15 v) ++ R := rfl
theorem cc_p1_16 {v : Int32} : (cc_w cI cP cII ad pr g ++ R).set 1 (ad 1, .inr (2, (cc_f1 ad g).set 16 (.int v))) = cc_w cI cP cII ad pr (dl_s2 g 1 16 v) ++ R := rfl
theorem cc_p1_17 {v : Int32} : (cc_w cI cP cII ad pr g ++ R).set 1 (ad 1, .inr (2, (cc_f1 ad g).set 17 (.int v))) = cc_w cI cP cII ad pr (dl_s2 g 1 17 v) ++ R := rfl
theorem cc_a2 : (cc_w cI cP cII ad pr g ++ R)[2]? = some (ad 2, .inr (8, cc_f2 ad g)) := rfl
theorem cc_a3 : (cc_w cI cP cII ad pr g ++ R)[3]? = some (ad 3, .inr (6, cc_f3 ad g)) := rfl
theorem cc_p3_4 {v : Int32} : (cc_w cI cP cII ad pr g ++ R).set 3 (ad 3, .inr (6, (cc_f3 ad g).set 4 (.int v))) = cc_w cI cP cII ad pr (dl_s2 g 3 4 v) ++ R := rfl
theorem cc_p3_5 {v : Int32} : (cc_w cI cP cII ad pr g ++ R).set 3 (ad 3, .inr (6, (cc_f3 ad g).set 5 (.int v))) = cc_w cI cP cII ad pr (dl_s2 g 3 5 v) ++ R := rfl
theorem cc_p3_6 {v : Int32} : (cc_w cI cP cII ad pr g ++ R).set 3 (ad 3, .inr (6, (cc_f3 ad g).set 6 (.int v))) = cc_w cI cP cII ad pr (dl_s2 g 3 6 v) ++ R := rfl
theorem cc_p3_7 {v : Int32} : (cc_w cI cP cII ad pr g ++ R).set 3 (ad 3, .inr (6, (cc_f3 ad g).set 7 (.int v))) = cc_w cI cP cII ad pr (dl_s2 g 3 7 v) ++ R := rfl
theorem cc_p3_8 {v : Int32} : (cc_w cI cP cII ad pr g ++ R).set 3 (ad 3, .inr (6, (cc_f3 ad g).set 8 (.int v))) = cc_w cI cP cII ad pr (dl_s2 g 3 8 v) ++ R := rfl
theorem cc_a4 : (cc_w cI cP cII ad pr g ++ R)[4]? = some (ad 4, .inr (7, cc_f4 ad g)) := rfl
theorem cc_p4_4 {v : Int32} : (cc_w cI cP cII ad pr g ++ R).set 4 (ad 4, .inr (7, (cc_f4 ad g).set 4 (.int v))) = cc_w cI cP cII ad pr (dl_s2 g 4 4 v) ++ R := rfl
theorem cc_p4_5 {v : Int32} : (cc_w cI cP cII ad pr g ++ R).set 4 (ad 4, .inr (7, (cc_f4 ad g).set 5 (.int v))) = cc_w cI cP cII ad pr (dl_s2 g 4 5 v) ++ R := rfl
theorem cc_p4_6 {v : Int32} : (cc_w cI cP cII ad pr g ++ R).set 4 (ad 4, .inr (7, (cc_f4 ad g).set 6 (.int v))) = cc_w cI cP cII ad pr (dl_s2 g 4 6 v) ++ R := rfl
theorem cc_p4_7 {v : Int32} : (cc_w cI cP cII ad pr g ++ R).set 4 (ad 4, .inr (7, (cc_f4 ad g).set 7 (.int v))) = cc_w cI cP cII ad pr (dl_s2 g 4 7 v) ++ R := rfl
theorem cc_a5 : (cc_w cI cP cII ad pr g ++ R)[5]? = some (ad 5, .inr (1, cc_f5 ad g)) := rfl
theorem cc_a6 : (cc_w cI cP cII ad pr g ++ R)[6]? = some (ad 6, .inr (5, cc_f6 ad g)) := rfl
theorem cc_p6_1 {v : Int32} : (cc_w cI cP cII ad pr g ++ R).set 6 (ad 6, .inr (5, (cc_f6 ad g).set 1 (.int v))) = cc_w cI cP cII ad pr (dl_s2 g 6 1 v) ++ R := rfl
theorem cc_a10 : (cc_w cI cP cII ad pr g ++ R)[7]? = some (ad 10, .inl (cI, 10, .inl (g 10))) := rfl
theorem cc_s10 {i v : Int32} : (cc_w cI cP cII ad pr g ++ R).set 7 (ad 10, .inl (cI, 10, .inl (upd (g 10) i.toNatClampNeg v))) = cc_w cI cP cII ad pr (dl_wr g 10 i v) ++ R := rfl
theorem cc_a11 : (cc_w cI cP cII ad pr g ++ R)[8]? = some (ad 11, .inl (cI, 10, .inl (g 11))) := rfl
theorem cc_s11 {i v : Int32} : (cc_w cI cP cII ad pr g ++ R).set 8 (ad 11, .inl (cI, 10, .inl (upd (g 11) i.toNatClampNeg v))) = cc_w cI cP cII ad pr (dl_wr g 11 i v) ++ R := rfl
theorem cc_a12 : (cc_w cI cP cII ad pr g ++ R)[9]? = some (ad 12, .inl (cI, 10, .inl (g 12))) := rfl
theorem cc_s12 {i v : Int32} : (cc_w cI cP cII ad pr g ++ R).set 9 (ad 12, .inl (cI, 10, .inl (upd (g 12) i.toNatClampNeg v))) = cc_w cI cP cII ad pr (dl_wr g 12 i v) ++ R := rfl
theorem cc_a13 : (cc_w cI cP cII ad pr g ++ R)[10]? = some (ad 13, .inl (cI, 16, .inl (g 13))) := rfl
theorem cc_s13 {i v : Int32} : (cc_w cI cP cII ad pr g ++ R).set 10 (ad 13, .inl (cI, 16, .inl (upd (g 13) i.toNatClampNeg v))) = cc_w cI cP cII ad pr (dl_wr g 13 i v) ++ R := rfl
theorem cc_a14 : (cc_w cI cP cII ad pr g ++ R)[11]? = some (ad 14, .inl (cI, 16, .inl (g 14))) := rfl
theorem cc_s14 {i v : Int32} : (cc_w cI cP cII ad pr g ++ R).set 11 (ad 14, .inl (cI, 16, .inl (upd (g 14) i.toNatClampNeg v))) = cc_w cI cP cII ad pr (dl_wr g 14 i v) ++ R := rfl
theorem cc_a15 : (cc_w cI cP cII ad pr g ++ R)[12]? = some (ad 15, .inl (cI, 16, .inl (g 15))) := rfl
theorem cc_s15 {i v : Int32} : (cc_w cI cP cII ad pr g ++ R).set 12 (ad 15, .inl (cI, 16, .inl (upd (g 15) i.toNatClampNeg v))) = cc_w cI cP cII ad pr (dl_wr g 15 i v) ++ R := rfl
theorem cc_a16 : (cc_w cI cP cII ad pr g ++ R)[13]? = some (ad 16, .inl (cI, 16, .inl (g 16))) := rfl
theorem cc_s16 {i v : Int32} : (cc_w cI cP cII ad pr g ++ R).set 13 (ad 16, .inl (cI, 16, .inl (upd (g 16) i.toNatClampNeg v))) = cc_w cI cP cII ad pr (dl_wr g 16 i v) ++ R := rfl
theorem cc_a17 : (cc_w cI cP cII ad pr g ++ R)[14]? = some (ad 17, .inl (cI, 10, .inl (g 17))) := rfl
theorem cc_s17 {i v : Int32} : (cc_w cI cP cII ad pr g ++ R).set 14 (ad 17, .inl (cI, 10, .inl (upd (g 17) i.toNatClampNeg v))) = cc_w cI cP cII ad pr (dl_wr g 17 i v) ++ R := rfl
theorem cc_c17 {sp dp n : Nat} : (cc_w cI cP cII ad pr g ++ R).set 14 (ad 17, .inl (cI, 10, .inl (va_cpy (g 17) (g 17) sp dp n))) = cc_w cI cP cII ad pr (dl_cp g 17 sp dp n) ++ R := rfl
theorem cc_a18 : (cc_w cI cP cII ad pr g ++ R)[15]? = some (ad 18, .inl (cI, 10, .inl (g 18))) := rfl
theorem cc_s18 {i v : Int32} : (cc_w cI cP cII ad pr g ++ R).set 15 (ad 18, .inl (cI, 10, .inl (upd (g 18) i.toNatClampNeg v))) = cc_w cI cP cII ad pr (dl_wr g 18 i v) ++ R := rfl
theorem cc_z18 {v : Int32} : (cc_w cI cP cII ad pr g ++ R).set 15 (ad 18, .inl (cI, 10, .inl (dl_fill (g 18) 10 v))) = cc_w cI cP cII ad pr (dl_fi g 18 10 v) ++ R := rfl
theorem cc_a19 : (cc_w cI cP cII ad pr g ++ R)[16]? = some (ad 19, .inl (cI, 10, .inl (g 19))) := rfl
theorem cc_s19 {i v : Int32} : (cc_w cI cP cII ad pr g ++ R).set 16 (ad 19, .inl (cI, 10, .inl (upd (g 19) i.toNatClampNeg v))) = cc_w cI cP cII ad pr (dl_wr g 19 i v) ++ R := rfl
theorem cc_z19 {v : Int32} : (cc_w cI cP cII ad pr g ++ R).set 16 (ad 19, .inl (cI, 10, .inl (dl_fill (g 19) 10 v))) = cc_w cI cP cII ad pr (dl_fi g 19 10 v) ++ R := rfl
theorem cc_a20 : (cc_w cI cP cII ad pr g ++ R)[17]? = some (ad 20, .inl (cI, 10, .inl (g 20))) := rfl
theorem cc_s20 {i v : Int32} : (cc_w cI cP cII ad pr g ++ R).set 17 (ad 20, .inl (cI, 10, .inl (upd (g 20) i.toNatClampNeg v))) = cc_w cI cP cII ad pr (dl_wr g 20 i v) ++ R := rfl
theorem cc_a21 : (cc_w cI cP cII ad pr g ++ R)[18]? = some (ad 21, .inl (cI, 1001, .inl (g 21))) := rfl
theorem cc_s21 {i v : Int32} : (cc_w cI cP cII ad pr g ++ R).set 18 (ad 21, .inl (cI, 1001, .inl (upd (g 21) i.toNatClampNeg v))) = cc_w cI cP cII ad pr (dl_wr g 21 i v) ++ R := rfl
theorem cc_z21 {v : Int32} : (cc_w cI cP cII ad pr g ++ R).set 18 (ad 21, .inl (cI, 1001, .inl (dl_fill (g 21) 1001 v))) = cc_w cI cP cII ad pr (dl_fi g 21 1001 v) ++ R := rfl
theorem cc_a22 : (cc_w cI cP cII ad pr g ++ R)[19]? = some (ad 22, .inl (cI, 20, .inl (g 22))) := rfl
theorem cc_s22 {i v : Int32} : (cc_w cI cP cII ad pr g ++ R).set 19 (ad 22, .inl (cI, 20, .inl (upd (g 22) i.toNatClampNeg v))) = cc_w cI cP cII ad pr (dl_wr g 22 i v) ++ R := rfl
theorem cc_a23 : (cc_w cI cP cII ad pr g ++ R)[20]? = some (ad 23, .inl (cI, 20, .inl (g 23))) := rfl
theorem cc_s23 {i v : Int32} : (cc_w cI cP cII ad pr g ++ R).set 20 (ad 23, .inl (cI, 20, .inl (upd (g 23) i.toNatClampNeg v))) = cc_w cI cP cII ad pr (dl_wr g 23 i v) ++ R := rfl
theorem cc_a24 : (cc_w cI cP cII ad pr g ++ R)[21]? = some (ad 24, .inl (cI, 10, .inl (g 24))) := rfl
theorem cc_s24 {i v : Int32} : (cc_w cI cP cII ad pr g ++ R).set 21 (ad 24, .inl (cI, 10, .inl (upd (g 24) i.toNatClampNeg v))) = cc_w cI cP cII ad pr (dl_wr g 24 i v) ++ R := rfl
theorem cc_a25 : (cc_w cI cP cII ad pr g ++ R)[22]? = some (ad 25, .inl (cI, 5, .inl (g 25))) := rfl
theorem cc_s25 {i v : Int32} : (cc_w cI cP cII ad pr g ++ R).set 22 (ad 25, .inl (cI, 5, .inl (upd (g 25) i.toNatClampNeg v))) = cc_w cI cP cII ad pr (dl_wr g 25 i v) ++ R := rfl
theorem cc_a26 : (cc_w cI cP cII ad pr g ++ R)[23]? = some (ad 26, .inl (cI, 5, .inl (g 26))) := rfl
theorem cc_s26 {i v : Int32} : (cc_w cI cP cII ad pr g ++ R).set 23 (ad 26, .inl (cI, 5, .inl (upd (g 26) i.toNatClampNeg v))) = cc_w cI cP cII ad pr (dl_wr g 26 i v) ++ R := rfl
theorem cc_a27 : (cc_w cI cP cII ad pr g ++ R)[24]? = some (ad 27, .inl (cI, 50, .inl (g 27))) := rfl
theorem cc_s27 {i v : Int32} : (cc_w cI cP cII ad pr g ++ R).set 24 (ad 27, .inl (cI, 50, .inl (upd (g 27) i.toNatClampNeg v))) = cc_w cI cP cII ad pr (dl_wr g 27 i v) ++ R := rfl
theorem cc_a28 : (cc_w cI cP cII ad pr g ++ R)[25]? = some (ad 28, .inl (cI, 20, .inl (g 28))) := rfl
theorem cc_s28 {i v : Int32} : (cc_w cI cP cII ad pr g ++ R).set 25 (ad 28, .inl (cI, 20, .inl (upd (g 28) i.toNatClampNeg v))) = cc_w cI cP cII ad pr (dl_wr g 28 i v) ++ R := rfl
theorem cc_a29 : (cc_w cI cP cII ad pr g ++ R)[26]? = some (ad 29, .inl (cI, 20, .inl (g 29))) := rfl
theorem cc_s29 {i v : Int32} : (cc_w cI cP cII ad pr g ++ R).set 26 (ad 29, .inl (cI, 20, .inl (upd (g 29) i.toNatClampNeg v))) = cc_w cI cP cII ad pr (dl_wr g 29 i v) ++ R := rfl
theorem cc_a30 : (cc_w cI cP cII ad pr g ++ R)[27]? = some (ad 30, .inl (cI, 20, .inl (g 30))) := rfl
theorem cc_s30 {i v : Int32} : (cc_w cI cP cII ad pr g ++ R).set 27 (ad 30, .inl (cI, 20, .inl (upd (g 30) i.toNatClampNeg v))) = cc_w cI cP cII ad pr (dl_wr g 30 i v) ++ R := rfl
theorem cc_a31 : (cc_w cI cP cII ad pr g ++ R)[28]? = some (ad 31, .inl (cI, 20, .inl (g 31))) := rfl
theorem cc_s31 {i v : Int32} : (cc_w cI cP cII ad pr g ++ R).set 28 (ad 31, .inl (cI, 20, .inl (upd (g 31) i.toNatClampNeg v))) = cc_w cI cP cII ad pr (dl_wr g 31 i v) ++ R := rfl
theorem cc_a32 : (cc_w cI cP cII ad pr g ++ R)[29]? = some (ad 32, .inl (cI, 20, .inl (g 32))) := rfl
theorem cc_s32 {i v : Int32} : (cc_w cI cP cII ad pr g ++ R).set 29 (ad 32, .inl (cI, 20, .inl (upd (g 32) i.toNatClampNeg v))) = cc_w cI cP cII ad pr (dl_wr g 32 i v) ++ R := rfl
theorem cc_a33 : (cc_w cI cP cII ad pr g ++ R)[30]? = some (ad 33, .inl (cI, (g 9 0).toNatClampNeg, .inl (g 33))) := rfl
theorem cc_s33 {i v : Int32} : (cc_w cI cP cII ad pr g ++ R).set 30 (ad 33, .inl (cI, (g 9 0).toNatClampNeg, .inl (upd (g 33) i.toNatClampNeg v))) = cc_w cI cP cII ad pr (dl_wr g 33 i v) ++ R := rfl
theorem cc_a34 : (cc_w cI cP cII ad pr g ++ R)[31]? = some (ad 34, .inl (cP, 10, .inr (.inr (.inr (.inr pr))))) := rfl
theorem cc_a35 : (cc_w cI cP cII ad pr g ++ R)[32]? = some (ad 35, .inl (cII, 5, .inr (.inr (.inr (.inr (cc_row ad)))))) := rfl
end
def cc_nw1 : List Cond := [Cond.fieldLinkNest RX6 29 "DripLines$Net" "placeCount" "I" "DripLines", Cond.fieldLinkNest RX6 34 "DripLines$Net" "streetCount" "I" "DripLines", Cond.fieldLinkNest RX6 41 "DripLines$Net" "first" "[I" "DripLines", Cond.fieldLinkNest RX6 44 "DripLines$Net" "second" "[I" "DripLines", Cond.fieldLinkNest RX6 55 "DripLines$Net" "taps" "I" "DripLines", Cond.fieldLinkNest RX6 61 "DripLines$Net" "ends" "[I" "DripLines", Cond.fieldLinkNest RX6 69 "DripLines$Net" "cost" "[I" "DripLines", Cond.fieldLinkNest RX6 72 "DripLines$Net" "price" "[I" "DripLines", Cond.fieldLinkNest RX6 75 "DripLines$Net" "wish" "[I" "DripLines", Cond.fieldLinkNest RX6 81 "DripLines$Net" "streetsOf" "[I" "DripLines", Cond.fieldLinkNest RX6 116 "DripLines$Net" "version" "I" "DripLines", Cond.fieldLinkNest RX7 39 "DripLines$Net" "version" "I" "DripLines", Cond.fieldLinkNest RX7 44 "DripLines$Net" "taps" "I" "DripLines", Cond.fieldLinkNest RX7 47 "DripLines$Net" "well" "I" "DripLines", Cond.fieldLinkNest RX7 69 "DripLines$Net" "placeCount" "I" "DripLines", Cond.fieldLinkNest RX7 85 "DripLines$Net" "streetCount" "I" "DripLines", Cond.fieldLinkNest RX7 94 "DripLines$Net" "first" "[I" "DripLines", Cond.fieldLinkNest RX7 97 "DripLines$Net" "second" "[I" "DripLines", Cond.fieldLinkNest RX7 111 "DripLines$Net" "cost" "[I" "DripLines", Cond.fieldLinkNest RX7 114 "DripLines$Net" "ends" "[I" "DripLines", Cond.fieldLinkNest RX8 28 "DripLines$Net" "placeCount" "I" "DripLines", Cond.fieldLinkNest RX8 38 "DripLines$Net" "taps" "I" "DripLines", Cond.fieldLinkNest RX8 67 "DripLines$Net" "streetCount" "I" "DripLines", Cond.fieldLinkNest RX8 74 "DripLines$Net" "first" "[I" "DripLines", Cond.fieldLinkNest RX8 77 "DripLines$Net" "second" "[I" "DripLines", Cond.fieldLinkNest RX8 88 "DripLines$Net" "price" "[I" "DripLines", Cond.fieldLinkNest RX8 91 "DripLines$Net" "cost" "[I" "DripLines", Cond.fieldLinkNest RX8 94 "DripLines$Net" "streetsOf" "[I" "DripLines", Cond.fieldLinkNest RX11 61 "DripLines$Net" "placeCount" "I" "DripLines", Cond.fieldLinkNest RX11 64 "DripLines$Net" "well" "I" "DripLines", Cond.fieldLinkNest RX11 78 "DripLines$Net" "streetCount" "I" "DripLines", Cond.fieldLinkNest RX11 95 "DripLines$Net" "logged" "I" "DripLines", Cond.fieldLinkNest RX11 117 "DripLines$Net" "first" "[I" "DripLines", Cond.fieldLinkNest RX11 121 "DripLines$Net" "second" "[I" "DripLines", Cond.fieldLinkNest RX11 124 "DripLines$Net" "cost" "[I" "DripLines", Cond.fieldLinkNest RX11 127 "DripLines$Net" "there" "I" "DripLines", Cond.fieldLinkNest RX11 133 "DripLines$Net" "hand" "I" "DripLines", Cond.fieldLinkNest RX11 141 "DripLines$Net" "taps" "I" "DripLines", Cond.fieldLinkNest RX11 144 "DripLines$Net" "trace" "LDripLines$Trace;" "DripLines", Cond.fieldLinkNest RX11 148 "DripLines$Trace" "size" "I" "DripLines", Cond.fieldLinkNest RX11 226 "DripLines$Maps" "sort" "[I" "DripLines", Cond.fieldLinkNest RX11 233 "DripLines$Maps" "cells" "[[I" "DripLines", Cond.methodLinkNest RX2 44 yX5_init "DripLines", Cond.methodLinkNest RX2 62 yX11_bitAt "DripLines", Cond.methodLinkNest RX2 79 yX11_isAmount "DripLines", Cond.methodLinkNest RX6 37 yX11_bitAt "DripLines", Cond.methodLinkNest RX7 76 yX11_bitAt "DripLines", Cond.methodLinkNest RX8 64 yX11_bitAt "DripLines", Cond.methodLinkNest RX11 9 yX2_init "DripLines", Cond.methodLinkNest RX11 41 yX1_init "DripLines"]
def cc_nw2 : List Cond := [.methodLink RX9 21 ⟨"DripLines$Tap", "join", "(I)I"⟩, .methodLink RX9 25 ⟨"DripLines$Tap", "ask", "(I)I"⟩, .sameMethod "DripLines$Tap" "DripLines$Place" "join" "(I)I", .sameMethod "DripLines$Tap" "DripLines$Place" "ask" "(I)I", .superclass "DripLines$Well" "DripLines$Tap", .superclass "DripLines$Tap" "DripLines$Place", .instanceMethod yX3_join, .instanceMethod yX3_ask, .initialized "DripLines$Place", .castable "DripLines$Gate" "DripLines$Place", .castable "DripLines$Tap" "DripLines$Place", .castable "DripLines$Well" "DripLines$Place", .castable "DripLines$Well" "DripLines$Tap", .castable "DripLines$Wish" "DripLines$Place"]
def cc_nw : List Cond := cc_nw1 ++ (cc_nw2 ++ (wsX3_join ++ wsX3_ask))
theorem nk_RX11_61 : Cond.fieldLinkNest RX11 61 "DripLines$Net" (TX2 10).2.1 (TX2 10).2.2.1 "DripLines" ∈ cc_nw := by decide +kernel
theorem nk_RX11_64 : Cond.fieldLinkNest RX11 64 "DripLines$Net" (TX2 13).2.1 (TX2 13).2.2.1 "DripLines" ∈ cc_nw := by decide +kernel
theorem nk_RX11_78 : Cond.fieldLinkNest RX11 78 "DripLines$Net" (TX2 11).2.1 (TX2 11).2.2.1 "DripLines" ∈ cc_nw := by decide +kernel
theorem nk_RX11_95 : Cond.fieldLinkNest RX11 95 "DripLines$Net" (TX2 16).2.1 (TX2 16).2.2.1 "DripLines" ∈ cc_nw := by decide +kernel
theorem nk_RX11_117 : Cond.fieldLinkNest RX11 117 "DripLines$Net" (TX2 4).2.1 (TX2 4).2.2.1 "DripLines" ∈ cc_nw := by decide +kernel
theorem nk_RX11_121 : Cond.fieldLinkNest RX11 121 "DripLines$Net" (TX2 5).2.1 (TX2 5).2.2.1 "DripLines" ∈ cc_nw := by decide +kernel
theorem nk_RX11_124 : Cond.fieldLinkNest RX11 124 "DripLines$Net" (TX2 6).2.1 (TX2 6).2.2.1 "DripLines" ∈ cc_nw := by decide +kernel
theorem nk_RX11_127 : Cond.fieldLinkNest RX11 127 "DripLines$Net" (TX2 14).2.1 (TX2 14).2.2.1 "DripLines" ∈ cc_nw := by decide +kernel
theorem nk_RX11_133 : Cond.fieldLinkNest RX11 133 "DripLines$Net" (TX2 15).2.1 (TX2 15).2.2.1 "DripLines" ∈ cc_nw := by decide +kernel
theorem nk_RX11_141 : Cond.fieldLinkNest RX11 141 "DripLines$Net" (TX2 12).2.1 (TX2 12).2.2.1 "DripLines" ∈ cc_nw := by decide +kernel
theorem nk_RX11_144 : Cond.fieldLinkNest RX11 144 "DripLines$Net" (TX2 9).2.1 (TX2 9).2.2.1 "DripLines" ∈ cc_nw := by decide +kernel
theorem nk_RX11_148 : Cond.fieldLinkNest RX11 148 "DripLines$Trace" (TX5 1).2.1 (TX5 1).2.2.1 "DripLines" ∈ cc_nw := by decide +kernel
theorem nk_RX11_226 : Cond.fieldLinkNest RX11 226 "DripLines$Maps" (TX1 0).2.1 (TX1 0).2.2.1 "DripLines" ∈ cc_nw := by decide +kernel
theorem nk_RX11_233 : Cond.fieldLinkNest RX11 233 "DripLines$Maps" (TX1 2).2.1 (TX1 2).2.2.1 "DripLines" ∈ cc_nw := by decide +kernel
theorem nk_RX6_29 : Cond.fieldLinkNest RX6 29 "DripLines$Net" (TX2 10).2.1 (TX2 10).2.2.1 "DripLines" ∈ cc_nw := by decide +kernel
theorem nk_RX6_34 : Cond.fieldLinkNest RX6 34 "DripLines$Net" (TX2 11).2.1 (TX2 11).2.2.1 "DripLines" ∈ cc_nw := by decide +kernel
theorem nk_RX6_41 : Cond.fieldLinkNest RX6 41 "DripLines$Net" (TX2 4).2.1 (TX2 4).2.2.1 "DripLines" ∈ cc_nw := by decide +kernel
theorem nk_RX6_44 : Cond.fieldLinkNest RX6 44 "DripLines$Net" (TX2 5).2.1 (TX2 5).2.2.1 "DripLines" ∈ cc_nw := by decide +kernel
theorem nk_RX6_55 : Cond.fieldLinkNest RX6 55 "DripLines$Net" (TX2 12).2.1 (TX2 12).2.2.1 "DripLines" ∈ cc_nw := by decide +kernel
theorem nk_RX6_61 : Cond.fieldLinkNest RX6 61 "DripLines$Net" (TX2 7).2.1 (TX2 7).2.2.1 "DripLines" ∈ cc_nw := by decide +kernel
theorem nk_RX6_69 : Cond.fieldLinkNest RX6 69 "DripLines$Net" (TX2 6).2.1 (TX2 6).2.2.1 "DripLines" ∈ cc_nw := by decide +kernel
theorem nk_RX6_72 : Cond.fieldLinkNest RX6 72 "DripLines$Net" (TX2 1).2.1 (TX2 1).2.2.1 "DripLines" ∈ cc_nw := by decide +kernel
theorem nk_RX6_75 : Cond.fieldLinkNest RX6 75 "DripLines$Net" (TX2 2).2.1 (TX2 2).2.2.1 "DripLines" ∈ cc_nw := by decide +kernel
theorem nk_RX6_81 : Cond.fieldLinkNest RX6 81 "DripLines$Net" (TX2 3).2.1 (TX2 3).2.2.1 "DripLines" ∈ cc_nw := by decide +kernel
theorem nk_RX6_116 : Cond.fieldLinkNest RX6 116 "DripLines$Net" (TX2 17).2.1 (TX2 17).2.2.1 "DripLines" ∈ cc_nw := by decide +kernel
theorem nk_RX7_39 : Cond.fieldLinkNest RX7 39 "DripLines$Net" (TX2 17).2.1 (TX2 17).2.2.1 "DripLines" ∈ cc_nw := by decide +kernel
theorem nk_RX7_44 : Cond.fieldLinkNest RX7 44 "DripLines$Net" (TX2 12).2.1 (TX2 12).2.2.1 "DripLines" ∈ cc_nw := by decide +kernel
theorem nk_RX7_47 : Cond.fieldLinkNest RX7 47 "DripLines$Net" (TX2 13).2.1 (TX2 13).2.2.1 "DripLines" ∈ cc_nw := by decide +kernel
theorem nk_RX7_69 : Cond.fieldLinkNest RX7 69 "DripLines$Net" (TX2 10).2.1 (TX2 10).2.2.1 "DripLines" ∈ cc_nw := by decide +kernel
theorem nk_RX7_85 : Cond.fieldLinkNest RX7 85 "DripLines$Net" (TX2 11).2.1 (TX2 11).2.2.1 "DripLines" ∈ cc_nw := by decide +kernel
theorem nk_RX7_94 : Cond.fieldLinkNest RX7 94 "DripLines$Net" (TX2 4).2.1 (TX2 4).2.2.1 "DripLines" ∈ cc_nw := by decide +kernel
theorem nk_RX7_97 : Cond.fieldLinkNest RX7 97 "DripLines$Net" (TX2 5).2.1 (TX2 5).2.2.1 "DripLines" ∈ cc_nw := by decide +kernel
theorem nk_RX7_111 : Cond.fieldLinkNest RX7 111 "DripLines$Net" (TX2 6).2.1 (TX2 6).2.2.1 "DripLines" ∈ cc_nw := by decide +kernel
theorem nk_RX7_114 : Cond.fieldLinkNest RX7 114 "DripLines$Net" (TX2 7).2.1 (TX2 7).2.2.1 "DripLines" ∈ cc_nw := by decide +kernel
theorem nk_RX8_28 : Cond.fieldLinkNest RX8 28 "DripLines$Net" (TX2 10).2.1 (TX2 10).2.2.1 "DripLines" ∈ cc_nw := by decide +kernel
theorem nk_RX8_38 : Cond.fieldLinkNest RX8 38 "DripLines$Net" (TX2 12).2.1 (TX2 12).2.2.1 "DripLines" ∈ cc_nw := by decide +kernel
theorem nk_RX8_67 : Cond.fieldLinkNest RX8 67 "DripLines$Net" (TX2 11).2.1 (TX2 11).2.2.1 "DripLines" ∈ cc_nw := by decide +kernel
theorem nk_RX8_74 : Cond.fieldLinkNest RX8 74 "DripLines$Net" (TX2 4).2.1 (TX2 4).2.2.1 "DripLines" ∈ cc_nw := by decide +kernel
theorem nk_RX8_77 : Cond.fieldLinkNest RX8 77 "DripLines$Net" (TX2 5).2.1 (TX2 5).2.2.1 "DripLines" ∈ cc_nw := by decide +kernel
theorem nk_RX8_88 : Cond.fieldLinkNest RX8 88 "DripLines$Net" (TX2 1).2.1 (TX2 1).2.2.1 "DripLines" ∈ cc_nw := by decide +kernel
theorem nk_RX8_91 : Cond.fieldLinkNest RX8 91 "DripLines$Net" (TX2 6).2.1 (TX2 6).2.2.1 "DripLines" ∈ cc_nw := by decide +kernel
theorem nk_RX8_94 : Cond.fieldLinkNest RX8 94 "DripLines$Net" (TX2 3).2.1 (TX2 3).2.2.1 "DripLines" ∈ cc_nw := by decide +kernel
theorem nk_RX11_9 : Cond.methodLinkNest RX11 9 yX2_init "DripLines" ∈ cc_nw := by decide +kernel
theorem nk_RX11_41 : Cond.methodLinkNest RX11 41 yX1_init "DripLines" ∈ cc_nw := by decide +kernel
theorem nk_RX2_44 : Cond.methodLinkNest RX2 44 yX5_init "DripLines" ∈ cc_nw := by decide +kernel
theorem nk_RX2_62 : Cond.methodLinkNest RX2 62 yX11_bitAt "DripLines" ∈ cc_nw := by decide +kernel
theorem nk_RX2_79 : Cond.methodLinkNest RX2 79 yX11_isAmount "DripLines" ∈ cc_nw := by decide +kernel
theorem nk_RX6_37 : Cond.methodLinkNest RX6 37 yX11_bitAt "DripLines" ∈ cc_nw := by decide +kernel
theorem nk_RX7_76 : Cond.methodLinkNest RX7 76 yX11_bitAt "DripLines" ∈ cc_nw := by decide +kernel
theorem nk_RX8_64 : Cond.methodLinkNest RX8 64 yX11_bitAt "DripLines" ∈ cc_nw := by decide +kernel
