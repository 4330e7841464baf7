/-! reads of the present conference in the whole memory: printed by wip/whole/gen/grd.py -/
theorem grd0 (M : z_M) (n : Nat) (V Vt U H T : z_V) (Hs : Nat → z_V) : (gM M n V Vt U H T Hs).2 (n + 1) = some (z_O 0 [.int (V.1 0), .ref (n + 1 + 1), .ref (n + 1 + 2), .ref (n + 1 + 6), .ref (n + 1 + 17), .ref (n + 1 + 23), .ref (n + 1 + 28)]) := crd0 _ _ _
theorem grd1 (M : z_M) (n : Nat) (V Vt U H T : z_V) (Hs : Nat → z_V) : (gM M n V Vt U H T Hs).2 (n + 1 + 1) = some (z_O 7 [.int (V.1 1), .float V.2.1, .int (V.1 2), .int (V.1 3), .int (V.1 4), .int (V.1 5), .int (V.1 6), .int (V.1 7)]) := crd1 _ _ _
theorem grd2 (M : z_M) (n : Nat) (V Vt U H T : z_V) (Hs : Nat → z_V) : (gM M n V Vt U H T Hs).2 (n + 1 + 2) = some (z_O 9 [.int (V.1 8), .ref (n + 1 + 3), .ref (n + 1 + 4), .ref (n + 1 + 5)]) := crd2 _ _ _
theorem grd3 (M : z_M) (n : Nat) (V Vt U H T : z_V) (Hs : Nat → z_V) : (gM M n V Vt U H T Hs).2 (n + 1 + 3) = some (z_I 8 (V.2.2.1 0)) := crd3 _ _ _
theorem grd4 (M : z_M) (n : Nat) (V Vt U H T : z_V) (Hs : Nat → z_V) : (gM M n V Vt U H T Hs).2 (n + 1 + 4) = some (z_I 8 (V.2.2.1 1)) := crd4 _ _ _
theorem grd5 (M : z_M) (n : Nat) (V Vt U H T : z_V) (Hs : Nat → z_V) : (gM M n V Vt U H T Hs).2 (n + 1 + 5) = some (z_I 8 (V.2.2.1 2)) := crd5 _ _ _
theorem grd6 (M : z_M) (n : Nat) (V Vt U H T : z_V) (Hs : Nat → z_V) : (gM M n V Vt U H T Hs).2 (n + 1 + 6) = some (z_O 6 [.int (V.1 9), .int (V.1 10), .ref (n + 1 + 7), .ref (n + 1 + 8), .ref (n + 1 + 9), .ref (n + 1 + 10), .ref (n + 1 + 11), .ref (n + 1 + 12), .ref (n + 1 + 13), .ref (n + 1 + 14), .ref (n + 1 + 15), .ref (n + 1 + 16)]) := crd6 _ _ _
theorem grd7 (M : z_M) (n : Nat) (V Vt U H T : z_V) (Hs : Nat → z_V) : (gM M n V Vt U H T Hs).2 (n + 1 + 7) = some (z_I 20 (V.2.2.1 3)) := crd7 _ _ _
theorem grd8 (M : z_M) (n : Nat) (V Vt U H T : z_V) (Hs : Nat → z_V) : (gM M n V Vt U H T Hs).2 (n + 1 + 8) = some (z_I 20 (V.2.2.1 4)) := crd8 _ _ _
theorem grd9 (M : z_M) (n : Nat) (V Vt U H T : z_V) (Hs : Nat → z_V) : (gM M n V Vt U H T Hs).2 (n + 1 + 9) = some (z_I 20 (V.2.2.1 5)) := crd9 _ _ _
theorem grd10 (M : z_M) (n : Nat) (V Vt U H T : z_V) (Hs : Nat → z_V) : (gM M n V Vt U H T Hs).2 (n + 1 + 10) = some (z_I 20 (V.2.2.1 6)) := crd10 _ _ _
theorem grd11 (M : z_M) (n : Nat) (V Vt U H T : z_V) (Hs : Nat → z_V) : (gM M n V Vt U H T Hs).2 (n + 1 + 11) = some (z_F 20 (V.2.2.2 0)) := crd11 _ _ _
theorem grd12 (M : z_M) (n : Nat) (V Vt U H T : z_V) (Hs : Nat → z_V) : (gM M n V Vt U H T Hs).2 (n + 1 + 12) = some (z_I 20 (V.2.2.1 7)) := crd12 _ _ _
theorem grd13 (M : z_M) (n : Nat) (V Vt U H T : z_V) (Hs : Nat → z_V) : (gM M n V Vt U H T Hs).2 (n + 1 + 13) = some (z_I 20 (V.2.2.1 8)) := crd13 _ _ _
theorem grd14 (M : z_M) (n : Nat) (V Vt U H T : z_V) (Hs : Nat → z_V) : (gM M n V Vt U H T Hs).2 (n + 1 + 14) = some (z_I 20 (V.2.2.1 9)) := crd14 _ _ _
theorem grd15 (M : z_M) (n : Nat) (V Vt U H T : z_V) (Hs : Nat → z_V) : (gM M n V Vt U H T Hs).2 (n + 1 + 15) = some (z_I 20 (V.2.2.1 10)) := crd15 _ _ _
theorem grd16 (M : z_M) (n : Nat) (V Vt U H T : z_V) (Hs : Nat → z_V) : (gM M n V Vt U H T Hs).2 (n + 1 + 16) = some (z_F 20 (V.2.2.2 1)) := crd16 _ _ _
theorem grd17 (M : z_M) (n : Nat) (V Vt U H T : z_V) (Hs : Nat → z_V) : (gM M n V Vt U H T Hs).2 (n + 1 + 17) = some (z_O 2 [.int (V.1 11), .ref (n + 1 + 18), .ref (n + 1 + 19), .ref (n + 1 + 20), .ref (n + 1 + 21), .ref (n + 1 + 22)]) := crd17 _ _ _
theorem grd18 (M : z_M) (n : Nat) (V Vt U H T : z_V) (Hs : Nat → z_V) : (gM M n V Vt U H T Hs).2 (n + 1 + 18) = some (z_I 20 (V.2.2.1 11)) := crd18 _ _ _
theorem grd19 (M : z_M) (n : Nat) (V Vt U H T : z_V) (Hs : Nat → z_V) : (gM M n V Vt U H T Hs).2 (n + 1 + 19) = some (z_I 20 (V.2.2.1 12)) := crd19 _ _ _
theorem grd20 (M : z_M) (n : Nat) (V Vt U H T : z_V) (Hs : Nat → z_V) : (gM M n V Vt U H T Hs).2 (n + 1 + 20) = some (z_I 20 (V.2.2.1 13)) := crd20 _ _ _
theorem grd21 (M : z_M) (n : Nat) (V Vt U H T : z_V) (Hs : Nat → z_V) : (gM M n V Vt U H T Hs).2 (n + 1 + 21) = some (z_I 20 (V.2.2.1 14)) := crd21 _ _ _
theorem grd22 (M : z_M) (n : Nat) (V Vt U H T : z_V) (Hs : Nat → z_V) : (gM M n V Vt U H T Hs).2 (n + 1 + 22) = some (z_I 20 (V.2.2.1 15)) := crd22 _ _ _
theorem grd23 (M : z_M) (n : Nat) (V Vt U H T : z_V) (Hs : Nat → z_V) : (gM M n V Vt U H T Hs).2 (n + 1 + 23) = some (z_O 8 [.ref (n + 1 + 24), .ref (n + 1 + 25), .ref (n + 1 + 26), .ref (n + 1 + 27)]) := crd23 _ _ _
theorem grd24 (M : z_M) (n : Nat) (V Vt U H T : z_V) (Hs : Nat → z_V) : (gM M n V Vt U H T Hs).2 (n + 1 + 24) = some (z_I 16 (V.2.2.1 16)) := crd24 _ _ _
theorem grd25 (M : z_M) (n : Nat) (V Vt U H T : z_V) (Hs : Nat → z_V) : (gM M n V Vt U H T Hs).2 (n + 1 + 25) = some (z_I 64 (V.2.2.1 17)) := crd25 _ _ _
theorem grd26 (M : z_M) (n : Nat) (V Vt U H T : z_V) (Hs : Nat → z_V) : (gM M n V Vt U H T Hs).2 (n + 1 + 26) = some (z_I 64 (V.2.2.1 18)) := crd26 _ _ _
theorem grd27 (M : z_M) (n : Nat) (V Vt U H T : z_V) (Hs : Nat → z_V) : (gM M n V Vt U H T Hs).2 (n + 1 + 27) = some (z_F 64 (V.2.2.2 2)) := crd27 _ _ _
theorem grd28 (M : z_M) (n : Nat) (V Vt U H T : z_V) (Hs : Nat → z_V) : (gM M n V Vt U H T Hs).2 (n + 1 + 28) = some (z_O 1 [.int (V.1 12), .int (V.1 13), .ref (n + 1 + 29), .ref (n + 1 + 30), .ref (n + 1 + 31)]) := crd28 _ _ _
theorem grd29 (M : z_M) (n : Nat) (V Vt U H T : z_V) (Hs : Nat → z_V) : (gM M n V Vt U H T Hs).2 (n + 1 + 29) = some (z_I 30 (V.2.2.1 19)) := crd29 _ _ _
theorem grd30 (M : z_M) (n : Nat) (V Vt U H T : z_V) (Hs : Nat → z_V) : (gM M n V Vt U H T Hs).2 (n + 1 + 30) = some (z_I 30 (V.2.2.1 20)) := crd30 _ _ _
theorem grd31 (M : z_M) (n : Nat) (V Vt U H T : z_V) (Hs : Nat → z_V) : (gM M n V Vt U H T Hs).2 (n + 1 + 31) = some (z_I 30 (V.2.2.1 21)) := crd31 _ _ _
def grd := And.intro grd0 (And.intro grd1 (And.intro grd2 (And.intro grd3 (And.intro grd4 (And.intro grd5 (And.intro grd6 (And.intro grd7 (And.intro grd8 (And.intro grd9 (And.intro grd10 (And.intro grd11 (And.intro grd12 (And.intro grd13 (And.intro grd14 (And.intro grd15 (And.intro grd16 (And.intro grd17 (And.intro grd18 (And.intro grd19 (And.intro grd20 (And.intro grd21 (And.intro grd22 (And.intro grd23 (And.intro grd24 (And.intro grd25 (And.intro grd26 (And.intro grd27 (And.intro grd28 (And.intro grd29 (And.intro grd30 (And.intro grd31 (And.intro gM_ob (And.intro gM_hc (gM_tc))))))))))))))))))))))))))))))))))
