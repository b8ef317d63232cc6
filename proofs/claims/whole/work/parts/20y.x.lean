/-! the world X (by gen.py): state (own numbers and rows, the current reading, the spare one) -/
abbrev jX : Type := jS × jS × jS
def wXo (cI cC cL : ClassId) (adX bh ch adC adS : Nat → Nat) (s : jX) : va_W := [(adX 0, .inr (5, [.ref (adX 1), .ref (adX 3), .ref (adC 0), .ref (adS 0), .int (jgI s.1 0), .int (jgI s.1 1)])),
  (adX 1, .inr (0, [.ref (adX 2), .int (jgI s.1 2)])),
  (adX 2, .inl (cI, 20, .inl (jgA s.1 0))),
  (adX 3, .inr (4, [.ref (adX 4), .int (jgI s.1 3)])),
  (adX 4, .inl (cL, 3, .inr (.inr (.inr (.inr (fun j => some (bh (jgA s.1 4 j).toNatClampNeg))))))),
  (bh 0, .inr (0, [.ref (ch 0), .int (jgI s.1 4)])),
  (ch 0, .inl (cI, 60, .inl (jgA s.1 1))),
  (bh 1, .inr (0, [.ref (ch 1), .int (jgI s.1 5)])),
  (ch 1, .inl (cI, 60, .inl (jgA s.1 2))),
  (bh 2, .inr (0, [.ref (ch 2), .int (jgI s.1 6)])),
  (ch 2, .inl (cI, 60, .inl (jgA s.1 3)))]
def wX (cI cC cL : ClassId) (adX bh ch adC adS : Nat → Nat) (s : jX) : va_W := wXo cI cC cL adX bh ch adC adS s ++ (wR cI cC adC s.2.1 ++ wR cI cC adS s.2.2)
theorem wX_e0 (cI cC cL : ClassId) (adX bh ch adC adS : Nat → Nat) (s : jX) : (wX cI cC cL adX bh ch adC adS s)[0]? = some (adX 0, .inr (5, [.ref (adX 1), .ref (adX 3), .ref (adC 0), .ref (adS 0), .int (jgI s.1 0), .int (jgI s.1 1)])) := rfl
theorem wX_e1 (cI cC cL : ClassId) (adX bh ch adC adS : Nat → Nat) (s : jX) : (wX cI cC cL adX bh ch adC adS s)[1]? = some (adX 1, .inr (0, [.ref (adX 2), .int (jgI s.1 2)])) := rfl
theorem wX_e2 (cI cC cL : ClassId) (adX bh ch adC adS : Nat → Nat) (s : jX) : (wX cI cC cL adX bh ch adC adS s)[2]? = some (adX 2, .inl (cI, 20, .inl (jgA s.1 0))) := rfl
theorem wX_e3 (cI cC cL : ClassId) (adX bh ch adC adS : Nat → Nat) (s : jX) : (wX cI cC cL adX bh ch adC adS s)[3]? = some (adX 3, .inr (4, [.ref (adX 4), .int (jgI s.1 3)])) := rfl
theorem wX_e4 (cI cC cL : ClassId) (adX bh ch adC adS : Nat → Nat) (s : jX) : (wX cI cC cL adX bh ch adC adS s)[4]? = some (adX 4, .inl (cL, 3, .inr (.inr (.inr (.inr (fun j => some (bh (jgA s.1 4 j).toNatClampNeg))))))) := rfl
theorem wX_e5 (cI cC cL : ClassId) (adX bh ch adC adS : Nat → Nat) (s : jX) : (wX cI cC cL adX bh ch adC adS s)[5]? = some (bh 0, .inr (0, [.ref (ch 0), .int (jgI s.1 4)])) := rfl
theorem wX_e6 (cI cC cL : ClassId) (adX bh ch adC adS : Nat → Nat) (s : jX) : (wX cI cC cL adX bh ch adC adS s)[6]? = some (ch 0, .inl (cI, 60, .inl (jgA s.1 1))) := rfl
theorem wX_e7 (cI cC cL : ClassId) (adX bh ch adC adS : Nat → Nat) (s : jX) : (wX cI cC cL adX bh ch adC adS s)[7]? = some (bh 1, .inr (0, [.ref (ch 1), .int (jgI s.1 5)])) := rfl
theorem wX_e8 (cI cC cL : ClassId) (adX bh ch adC adS : Nat → Nat) (s : jX) : (wX cI cC cL adX bh ch adC adS s)[8]? = some (ch 1, .inl (cI, 60, .inl (jgA s.1 2))) := rfl
theorem wX_e9 (cI cC cL : ClassId) (adX bh ch adC adS : Nat → Nat) (s : jX) : (wX cI cC cL adX bh ch adC adS s)[9]? = some (bh 2, .inr (0, [.ref (ch 2), .int (jgI s.1 6)])) := rfl
theorem wX_e10 (cI cC cL : ClassId) (adX bh ch adC adS : Nat → Nat) (s : jX) : (wX cI cC cL adX bh ch adC adS s)[10]? = some (ch 2, .inl (cI, 60, .inl (jgA s.1 3))) := rfl
theorem wX_e11 (cI cC cL : ClassId) (adX bh ch adC adS : Nat → Nat) (s : jX) : (wX cI cC cL adX bh ch adC adS s)[11]? = some (adC 0, .inr (3, [.ref (adC 3), .ref (adC 1), .ref (adC 2), .int (jgI s.2.1 5), .ref (adC 14), .ref (adC 15), .int (jgI s.2.1 6), .ref (adC 16), .ref (adC 17), .int (jgI s.2.1 7)])) := rfl
theorem wX_e12 (cI cC cL : ClassId) (adX bh ch adC adS : Nat → Nat) (s : jX) : (wX cI cC cL adX bh ch adC adS s)[12]? = some (adC 1, .inr (2, [.ref (adC 3), .ref (adC 8), .ref (adC 9), .ref (adC 10), .ref (adC 11), .ref (adC 12), .ref (adC 13), .int (jgI s.2.1 3), .int (jgI s.2.1 4)])) := rfl
theorem wX_e13 (cI cC cL : ClassId) (adX bh ch adC adS : Nat → Nat) (s : jX) : (wX cI cC cL adX bh ch adC adS s)[13]? = some (adC 2, .inr (1, [.ref (adC 3), .ref (adC 5), .ref (adC 6), .ref (adC 7), .int (jgI s.2.1 1), .int (jgI s.2.1 2)])) := rfl
theorem wX_e14 (cI cC cL : ClassId) (adX bh ch adC adS : Nat → Nat) (s : jX) : (wX cI cC cL adX bh ch adC adS s)[14]? = some (adC 3, .inr (0, [.ref (adC 4), .int (jgI s.2.1 0)])) := rfl
theorem wX_e15 (cI cC cL : ClassId) (adX bh ch adC adS : Nat → Nat) (s : jX) : (wX cI cC cL adX bh ch adC adS s)[15]? = some (adC 4, .inl (cI, 60, .inl (jgA s.2.1 0))) := rfl
theorem wX_e16 (cI cC cL : ClassId) (adX bh ch adC adS : Nat → Nat) (s : jX) : (wX cI cC cL adX bh ch adC adS s)[16]? = some (adC 5, .inl (cI, 61, .inl (jgA s.2.1 1))) := rfl
theorem wX_e17 (cI cC cL : ClassId) (adX bh ch adC adS : Nat → Nat) (s : jX) : (wX cI cC cL adX bh ch adC adS s)[17]? = some (adC 6, .inl (cI, 61, .inl (jgA s.2.1 2))) := rfl
theorem wX_e18 (cI cC cL : ClassId) (adX bh ch adC adS : Nat → Nat) (s : jX) : (wX cI cC cL adX bh ch adC adS s)[18]? = some (adC 7, .inl (cI, 61, .inl (jgA s.2.1 3))) := rfl
theorem wX_e19 (cI cC cL : ClassId) (adX bh ch adC adS : Nat → Nat) (s : jX) : (wX cI cC cL adX bh ch adC adS s)[19]? = some (adC 8, .inl (cI, 363, .inl (jgA s.2.1 4))) := rfl
theorem wX_e20 (cI cC cL : ClassId) (adX bh ch adC adS : Nat → Nat) (s : jX) : (wX cI cC cL adX bh ch adC adS s)[20]? = some (adC 9, .inl (cI, 363, .inl (jgA s.2.1 5))) := rfl
theorem wX_e21 (cI cC cL : ClassId) (adX bh ch adC adS : Nat → Nat) (s : jX) : (wX cI cC cL adX bh ch adC adS s)[21]? = some (adC 10, .inl (cI, 363, .inl (jgA s.2.1 6))) := rfl
theorem wX_e22 (cI cC cL : ClassId) (adX bh ch adC adS : Nat → Nat) (s : jX) : (wX cI cC cL adX bh ch adC adS s)[22]? = some (adC 11, .inl (cI, 363, .inl (jgA s.2.1 7))) := rfl
theorem wX_e23 (cI cC cL : ClassId) (adX bh ch adC adS : Nat → Nat) (s : jX) : (wX cI cC cL adX bh ch adC adS s)[23]? = some (adC 12, .inl (cI, 363, .inl (jgA s.2.1 8))) := rfl
theorem wX_e24 (cI cC cL : ClassId) (adX bh ch adC adS : Nat → Nat) (s : jX) : (wX cI cC cL adX bh ch adC adS s)[24]? = some (adC 13, .inl (cI, 180, .inl (jgA s.2.1 9))) := rfl
theorem wX_e25 (cI cC cL : ClassId) (adX bh ch adC adS : Nat → Nat) (s : jX) : (wX cI cC cL adX bh ch adC adS s)[25]? = some (adC 14, .inl (cI, 60, .inl (jgA s.2.1 10))) := rfl
theorem wX_e26 (cI cC cL : ClassId) (adX bh ch adC adS : Nat → Nat) (s : jX) : (wX cI cC cL adX bh ch adC adS s)[26]? = some (adC 15, .inl (cI, 60, .inl (jgA s.2.1 11))) := rfl
theorem wX_e27 (cI cC cL : ClassId) (adX bh ch adC adS : Nat → Nat) (s : jX) : (wX cI cC cL adX bh ch adC adS s)[27]? = some (adC 16, .inl (cI, 60, .inl (jgA s.2.1 12))) := rfl
theorem wX_e28 (cI cC cL : ClassId) (adX bh ch adC adS : Nat → Nat) (s : jX) : (wX cI cC cL adX bh ch adC adS s)[28]? = some (adC 17, .inl (cI, 60, .inl (jgA s.2.1 13))) := rfl
theorem wX_e29 (cI cC cL : ClassId) (adX bh ch adC adS : Nat → Nat) (s : jX) : (wX cI cC cL adX bh ch adC adS s)[29]? = some (adS 0, .inr (3, [.ref (adS 3), .ref (adS 1), .ref (adS 2), .int (jgI s.2.2 5), .ref (adS 14), .ref (adS 15), .int (jgI s.2.2 6), .ref (adS 16), .ref (adS 17), .int (jgI s.2.2 7)])) := rfl
theorem wX_e30 (cI cC cL : ClassId) (adX bh ch adC adS : Nat → Nat) (s : jX) : (wX cI cC cL adX bh ch adC adS s)[30]? = some (adS 1, .inr (2, [.ref (adS 3), .ref (adS 8), .ref (adS 9), .ref (adS 10), .ref (adS 11), .ref (adS 12), .ref (adS 13), .int (jgI s.2.2 3), .int (jgI s.2.2 4)])) := rfl
theorem wX_e31 (cI cC cL : ClassId) (adX bh ch adC adS : Nat → Nat) (s : jX) : (wX cI cC cL adX bh ch adC adS s)[31]? = some (adS 2, .inr (1, [.ref (adS 3), .ref (adS 5), .ref (adS 6), .ref (adS 7), .int (jgI s.2.2 1), .int (jgI s.2.2 2)])) := rfl
theorem wX_e32 (cI cC cL : ClassId) (adX bh ch adC adS : Nat → Nat) (s : jX) : (wX cI cC cL adX bh ch adC adS s)[32]? = some (adS 3, .inr (0, [.ref (adS 4), .int (jgI s.2.2 0)])) := rfl
theorem wX_e33 (cI cC cL : ClassId) (adX bh ch adC adS : Nat → Nat) (s : jX) : (wX cI cC cL adX bh ch adC adS s)[33]? = some (adS 4, .inl (cI, 60, .inl (jgA s.2.2 0))) := rfl
theorem wX_e34 (cI cC cL : ClassId) (adX bh ch adC adS : Nat → Nat) (s : jX) : (wX cI cC cL adX bh ch adC adS s)[34]? = some (adS 5, .inl (cI, 61, .inl (jgA s.2.2 1))) := rfl
theorem wX_e35 (cI cC cL : ClassId) (adX bh ch adC adS : Nat → Nat) (s : jX) : (wX cI cC cL adX bh ch adC adS s)[35]? = some (adS 6, .inl (cI, 61, .inl (jgA s.2.2 2))) := rfl
theorem wX_e36 (cI cC cL : ClassId) (adX bh ch adC adS : Nat → Nat) (s : jX) : (wX cI cC cL adX bh ch adC adS s)[36]? = some (adS 7, .inl (cI, 61, .inl (jgA s.2.2 3))) := rfl
theorem wX_e37 (cI cC cL : ClassId) (adX bh ch adC adS : Nat → Nat) (s : jX) : (wX cI cC cL adX bh ch adC adS s)[37]? = some (adS 8, .inl (cI, 363, .inl (jgA s.2.2 4))) := rfl
theorem wX_e38 (cI cC cL : ClassId) (adX bh ch adC adS : Nat → Nat) (s : jX) : (wX cI cC cL adX bh ch adC adS s)[38]? = some (adS 9, .inl (cI, 363, .inl (jgA s.2.2 5))) := rfl
theorem wX_e39 (cI cC cL : ClassId) (adX bh ch adC adS : Nat → Nat) (s : jX) : (wX cI cC cL adX bh ch adC adS s)[39]? = some (adS 10, .inl (cI, 363, .inl (jgA s.2.2 6))) := rfl
theorem wX_e40 (cI cC cL : ClassId) (adX bh ch adC adS : Nat → Nat) (s : jX) : (wX cI cC cL adX bh ch adC adS s)[40]? = some (adS 11, .inl (cI, 363, .inl (jgA s.2.2 7))) := rfl
theorem wX_e41 (cI cC cL : ClassId) (adX bh ch adC adS : Nat → Nat) (s : jX) : (wX cI cC cL adX bh ch adC adS s)[41]? = some (adS 12, .inl (cI, 363, .inl (jgA s.2.2 8))) := rfl
theorem wX_e42 (cI cC cL : ClassId) (adX bh ch adC adS : Nat → Nat) (s : jX) : (wX cI cC cL adX bh ch adC adS s)[42]? = some (adS 13, .inl (cI, 180, .inl (jgA s.2.2 9))) := rfl
theorem wX_e43 (cI cC cL : ClassId) (adX bh ch adC adS : Nat → Nat) (s : jX) : (wX cI cC cL adX bh ch adC adS s)[43]? = some (adS 14, .inl (cI, 60, .inl (jgA s.2.2 10))) := rfl
theorem wX_e44 (cI cC cL : ClassId) (adX bh ch adC adS : Nat → Nat) (s : jX) : (wX cI cC cL adX bh ch adC adS s)[44]? = some (adS 15, .inl (cI, 60, .inl (jgA s.2.2 11))) := rfl
theorem wX_e45 (cI cC cL : ClassId) (adX bh ch adC adS : Nat → Nat) (s : jX) : (wX cI cC cL adX bh ch adC adS s)[45]? = some (adS 16, .inl (cI, 60, .inl (jgA s.2.2 12))) := rfl
theorem wX_e46 (cI cC cL : ClassId) (adX bh ch adC adS : Nat → Nat) (s : jX) : (wX cI cC cL adX bh ch adC adS s)[46]? = some (adS 17, .inl (cI, 60, .inl (jgA s.2.2 13))) := rfl
theorem wX_pX_0 (cI cC cL : ClassId) (adX bh ch adC adS : Nat → Nat) (s : jX) (v : Int32) : (wX cI cC cL adX bh ch adC adS s).set 0 (adX 0, .inr (5, ([.ref (adX 1), .ref (adX 3), .ref (adC 0), .ref (adS 0), .int (jgI s.1 0), .int (jgI s.1 1)] : List Value).set 4 (.int v))) = wX cI cC cL adX bh ch adC adS (jsI s.1 0 v, s.2.1, s.2.2) := rfl
theorem wX_pX_1 (cI cC cL : ClassId) (adX bh ch adC adS : Nat → Nat) (s : jX) (v : Int32) : (wX cI cC cL adX bh ch adC adS s).set 0 (adX 0, .inr (5, ([.ref (adX 1), .ref (adX 3), .ref (adC 0), .ref (adS 0), .int (jgI s.1 0), .int (jgI s.1 1)] : List Value).set 5 (.int v))) = wX cI cC cL adX bh ch adC adS (jsI s.1 1 v, s.2.1, s.2.2) := rfl
theorem wX_pB_2 (cI cC cL : ClassId) (adX bh ch adC adS : Nat → Nat) (s : jX) (v : Int32) : (wX cI cC cL adX bh ch adC adS s).set 1 (adX 1, .inr (0, ([.ref (adX 2), .int (jgI s.1 2)] : List Value).set 1 (.int v))) = wX cI cC cL adX bh ch adC adS (jsI s.1 2 v, s.2.1, s.2.2) := rfl
theorem wX_aBa (cI cC cL : ClassId) (adX bh ch adC adS : Nat → Nat) (s : jX) (i : Nat) (v : Int32) : (wX cI cC cL adX bh ch adC adS s).set 2 (adX 2, .inl (cI, 20, .inl (upd (jgA s.1 0) i v))) = wX cI cC cL adX bh ch adC adS (jsA s.1 0 i v, s.2.1, s.2.2) := rfl
theorem wX_pH_3 (cI cC cL : ClassId) (adX bh ch adC adS : Nat → Nat) (s : jX) (v : Int32) : (wX cI cC cL adX bh ch adC adS s).set 3 (adX 3, .inr (4, ([.ref (adX 4), .int (jgI s.1 3)] : List Value).set 1 (.int v))) = wX cI cC cL adX bh ch adC adS (jsI s.1 3 v, s.2.1, s.2.2) := rfl
theorem wX_ph0_4 (cI cC cL : ClassId) (adX bh ch adC adS : Nat → Nat) (s : jX) (v : Int32) : (wX cI cC cL adX bh ch adC adS s).set 5 (bh 0, .inr (0, ([.ref (ch 0), .int (jgI s.1 4)] : List Value).set 1 (.int v))) = wX cI cC cL adX bh ch adC adS (jsI s.1 4 v, s.2.1, s.2.2) := rfl
theorem wX_ah0a (cI cC cL : ClassId) (adX bh ch adC adS : Nat → Nat) (s : jX) (i : Nat) (v : Int32) : (wX cI cC cL adX bh ch adC adS s).set 6 (ch 0, .inl (cI, 60, .inl (upd (jgA s.1 1) i v))) = wX cI cC cL adX bh ch adC adS (jsA s.1 1 i v, s.2.1, s.2.2) := rfl
theorem wX_ph1_5 (cI cC cL : ClassId) (adX bh ch adC adS : Nat → Nat) (s : jX) (v : Int32) : (wX cI cC cL adX bh ch adC adS s).set 7 (bh 1, .inr (0, ([.ref (ch 1), .int (jgI s.1 5)] : List Value).set 1 (.int v))) = wX cI cC cL adX bh ch adC adS (jsI s.1 5 v, s.2.1, s.2.2) := rfl
theorem wX_ah1a (cI cC cL : ClassId) (adX bh ch adC adS : Nat → Nat) (s : jX) (i : Nat) (v : Int32) : (wX cI cC cL adX bh ch adC adS s).set 8 (ch 1, .inl (cI, 60, .inl (upd (jgA s.1 2) i v))) = wX cI cC cL adX bh ch adC adS (jsA s.1 2 i v, s.2.1, s.2.2) := rfl
theorem wX_ph2_6 (cI cC cL : ClassId) (adX bh ch adC adS : Nat → Nat) (s : jX) (v : Int32) : (wX cI cC cL adX bh ch adC adS s).set 9 (bh 2, .inr (0, ([.ref (ch 2), .int (jgI s.1 6)] : List Value).set 1 (.int v))) = wX cI cC cL adX bh ch adC adS (jsI s.1 6 v, s.2.1, s.2.2) := rfl
theorem wX_ah2a (cI cC cL : ClassId) (adX bh ch adC adS : Nat → Nat) (s : jX) (i : Nat) (v : Int32) : (wX cI cC cL adX bh ch adC adS s).set 10 (ch 2, .inl (cI, 60, .inl (upd (jgA s.1 3) i v))) = wX cI cC cL adX bh ch adC adS (jsA s.1 3 i v, s.2.1, s.2.2) := rfl
theorem wX_pcL_0 (cI cC cL : ClassId) (adX bh ch adC adS : Nat → Nat) (s : jX) (v : Int32) : (wX cI cC cL adX bh ch adC adS s).set 14 (adC 3, .inr (0, ([.ref (adC 4), .int (jgI s.2.1 0)] : List Value).set 1 (.int v))) = wX cI cC cL adX bh ch adC adS (s.1, jsI s.2.1 0 v, s.2.2) := rfl
theorem wX_aca0 (cI cC cL : ClassId) (adX bh ch adC adS : Nat → Nat) (s : jX) (i : Nat) (v : Int32) : (wX cI cC cL adX bh ch adC adS s).set 15 (adC 4, .inl (cI, 60, .inl (upd (jgA s.2.1 0) i v))) = wX cI cC cL adX bh ch adC adS (s.1, jsA s.2.1 0 i v, s.2.2) := rfl
theorem wX_ppL_0 (cI cC cL : ClassId) (adX bh ch adC adS : Nat → Nat) (s : jX) (v : Int32) : (wX cI cC cL adX bh ch adC adS s).set 32 (adS 3, .inr (0, ([.ref (adS 4), .int (jgI s.2.2 0)] : List Value).set 1 (.int v))) = wX cI cC cL adX bh ch adC adS (s.1, s.2.1, jsI s.2.2 0 v) := rfl
theorem wX_apa0 (cI cC cL : ClassId) (adX bh ch adC adS : Nat → Nat) (s : jX) (i : Nat) (v : Int32) : (wX cI cC cL adX bh ch adC adS s).set 33 (adS 4, .inl (cI, 60, .inl (upd (jgA s.2.2 0) i v))) = wX cI cC cL adX bh ch adC adS (s.1, s.2.1, jsA s.2.2 0 i v) := rfl
theorem wX_mcc (cI cC cL : ClassId) (adX bh ch adC adS : Nat → Nat) (s : jX) : ([11, 12, 13, 14, 15, 16, 17, 18, 19, 20, 21, 22, 23, 24, 25, 26, 27, 28] : List Nat).map (fun i => (wX cI cC cL adX bh ch adC adS s)[i]?) = (wR cI cC adC s.2.1).map some := rfl
theorem wX_mrc (cI cC cL : ClassId) (adX bh ch adC adS : Nat → Nat) (s : jX) : ([0, 1, 2, 3, 4, 5, 6, 7, 8, 9, 10, 29, 30, 31, 32, 33, 34, 35, 36, 37, 38, 39, 40, 41, 42, 43, 44, 45, 46] : List Nat).map (fun i => (wX cI cC cL adX bh ch adC adS s)[i]?) = (wXo cI cC cL adX bh ch adC adS s ++ wR cI cC adS s.2.2).map some := rfl
theorem wX_mbc (cI cC cL : ClassId) (adX bh ch adC adS : Nat → Nat) (s : jX) (v : jS) : ([0, 1, 2, 3, 4, 5, 6, 7, 8, 9, 10, 29, 30, 31, 32, 33, 34, 35, 36, 37, 38, 39, 40, 41, 42, 43, 44, 45, 46, 11, 12, 13, 14, 15, 16, 17, 18, 19, 20, 21, 22, 23, 24, 25, 26, 27, 28] : List Nat).map (fun i => ((wXo cI cC cL adX bh ch adC adS s ++ wR cI cC adS s.2.2) ++ wR cI cC adC v)[i]?) = (wX cI cC cL adX bh ch adC adS (s.1, v, s.2.2)).map some := rfl
theorem wX_subc (cI cC cL : ClassId) (adX bh ch adC adS : Nat → Nat) (s : jX) {D : va_G} {cl : List vw_C} {F : Nat → Prop} {H0 H : Heap} {locs : List Loc} (h : jcx D cl F H0 (wX cI cC cL adX bh ch adC adS s) H locs) : jcx D cl F H0 (wR cI cC adC s.2.1) H locs := ⟨h.1.sub [11, 12, 13, 14, 15, 16, 17, 18, 19, 20, 21, 22, 23, 24, 25, 26, 27, 28] rfl, h.2.1.sub [11, 12, 13, 14, 15, 16, 17, 18, 19, 20, 21, 22, 23, 24, 25, 26, 27, 28] rfl rfl, h.2.2⟩
theorem wX_mcp (cI cC cL : ClassId) (adX bh ch adC adS : Nat → Nat) (s : jX) : ([29, 30, 31, 32, 33, 34, 35, 36, 37, 38, 39, 40, 41, 42, 43, 44, 45, 46] : List Nat).map (fun i => (wX cI cC cL adX bh ch adC adS s)[i]?) = (wR cI cC adS s.2.2).map some := rfl
theorem wX_mrp (cI cC cL : ClassId) (adX bh ch adC adS : Nat → Nat) (s : jX) : ([0, 1, 2, 3, 4, 5, 6, 7, 8, 9, 10, 11, 12, 13, 14, 15, 16, 17, 18, 19, 20, 21, 22, 23, 24, 25, 26, 27, 28] : List Nat).map (fun i => (wX cI cC cL adX bh ch adC adS s)[i]?) = (wXo cI cC cL adX bh ch adC adS s ++ wR cI cC adC s.2.1).map some := rfl
theorem wX_mbp (cI cC cL : ClassId) (adX bh ch adC adS : Nat → Nat) (s : jX) (v : jS) : ([0, 1, 2, 3, 4, 5, 6, 7, 8, 9, 10, 11, 12, 13, 14, 15, 16, 17, 18, 19, 20, 21, 22, 23, 24, 25, 26, 27, 28, 29, 30, 31, 32, 33, 34, 35, 36, 37, 38, 39, 40, 41, 42, 43, 44, 45, 46] : List Nat).map (fun i => ((wXo cI cC cL adX bh ch adC adS s ++ wR cI cC adC s.2.1) ++ wR cI cC adS v)[i]?) = (wX cI cC cL adX bh ch adC adS (s.1, s.2.1, v)).map some := rfl
theorem wX_subp (cI cC cL : ClassId) (adX bh ch adC adS : Nat → Nat) (s : jX) {D : va_G} {cl : List vw_C} {F : Nat → Prop} {H0 H : Heap} {locs : List Loc} (h : jcx D cl F H0 (wX cI cC cL adX bh ch adC adS s) H locs) : jcx D cl F H0 (wR cI cC adS s.2.2) H locs := ⟨h.1.sub [29, 30, 31, 32, 33, 34, 35, 36, 37, 38, 39, 40, 41, 42, 43, 44, 45, 46] rfl, h.2.1.sub [29, 30, 31, 32, 33, 34, 35, 36, 37, 38, 39, 40, 41, 42, 43, 44, 45, 46] rfl rfl, h.2.2⟩
/-! rows for world X: a call in one of its readings, the texts' row, the turns -/
theorem wX_aHt (cI cC cL : ClassId) (adX bh ch adC adS : Nat → Nat) (s : jX) (i : Nat) (v : Int32) : (wX cI cC cL adX bh ch adC adS s).set 4 (adX 4, .inl (cL, 3, .inr (.inr (.inr (.inr (va_up (fun j => some (bh (jgA s.1 4 j).toNatClampNeg)) i (some (bh v.toNatClampNeg)))))))) = wX cI cC cL adX bh ch adC adS (jsA s.1 4 i v, s.2.1, s.2.2) := by
  have e : va_up (fun j => some (bh (jgA s.1 4 j).toNatClampNeg)) i (some (bh v.toNatClampNeg)) = fun j => some (bh (jgA (jsA s.1 4 i v) 4 j).toNatClampNeg) := by
    funext j
    by_cases h : j = i
    · subst h
      simp [va_up, jgA, jsA, jsF, upd]
    · simp [va_up, jgA, jsA, jsF, upd, h]
  rw [e]
  rfl
theorem fm_some {α β : Type} {f : α → Option β} {is : List α} {w : List β} (h : is.map f = w.map some) : is.filterMap f = w := by
  have e : is.filterMap f = (is.map f).filterMap id := by
    rw [List.filterMap_map]
    rfl
  rw [e, h, List.filterMap_map]
  simp
section JX
variable {p : Program} {l : Launch} {e : Env} {R : Room} {s : State} {m : MethodId} {args : Array Value} {below : List Frame} {meth : Method} {c : Code} {H : Heap} {locs : List Loc} {cells slots : Nat} {Q : State → Prop}
variable {cc : ByteArray} {pc : Nat} {ls : Array Slot} {rest st0 : List Value} {D : va_G} {cl : List vw_C} {A : Nat → Prop} {tys : List (ClassId × FieldType)} {w w' wc wc' wr w1 w2 : va_W} {H0 : Heap} {r : Int32} {a : Array Value} {isC isR isB : List Nat}
theorem jcallS_i (hCm : isC.map (fun i => w[i]?) = wc.map some) (hRm : isR.map (fun i => w[i]?) = wr.map some) (hn : va_nd isR = true) (hdis : ∀ i ∈ isR, i ∉ isC) (hBm : isB.map (fun i => (wr ++ wc')[i]?) = w'.map some) (hnB : va_nd isB = true)
    (hr : va_Run p l e R s m args below meth c H locs cells slots 0 0 (F0 m pc ls st0) rest (jQi D cl tys wc wc' H.size r a) (va_A wc H.size)) (hC : jcx D cl A H0 w H locs) (hA : ∀ q, H0.size ≤ q → A q)
    (kk : ∀ (H1 : Heap) (locs1 : List Loc), jcx D cl A H0 w' H1 locs1 → W p l e R s m args below meth c H1 locs1 cells slots Q (F0 m (pc + 3) ls (.int r :: rest))) : W p l e R s m args below meth c H locs cells slots Q (F0 m pc ls st0) := by
  have hF := va_free hC.2.1 hC.2.2 hA isC hCm
  refine va_calli (A1 := va_A wc H.size) hr hC.2.2 (fun q _ h => hF q h) hF (fun x u t H1 locs1 ht hvm hp hB hz hk hS => ?_)
  obtain ⟨hP1, hK1, hD1⟩ := hB
  have hp : x = r := hp
  rw [ht] at hP1
  rw [hp]
  obtain ⟨hP2, hD2⟩ := va_join hC.1 hC.2.1 isC isR hCm hRm hn hdis hk hF hP1 hD1
  exact kk H1 locs1 ⟨hP2.sub isB (fm_some hBm), hD2.sub isB hnB hBm, hS⟩
theorem jcallS_v (hCm : isC.map (fun i => w[i]?) = wc.map some) (hRm : isR.map (fun i => w[i]?) = wr.map some) (hn : va_nd isR = true) (hdis : ∀ i ∈ isR, i ∉ isC) (hBm : isB.map (fun i => (wr ++ wc')[i]?) = w'.map some) (hnB : va_nd isB = true)
    (hr : va_Run p l e R s m args below meth c H locs cells slots 0 0 (F0 m pc ls st0) rest (jQv D cl tys wc wc' H.size a) (va_A wc H.size)) (hC : jcx D cl A H0 w H locs) (hA : ∀ q, H0.size ≤ q → A q)
    (kk : ∀ (H1 : Heap) (locs1 : List Loc), jcx D cl A H0 w' H1 locs1 → W p l e R s m args below meth c H1 locs1 cells slots Q (F0 m (pc + 3) ls rest)) : W p l e R s m args below meth c H locs cells slots Q (F0 m pc ls st0) := by
  have hF := va_free hC.2.1 hC.2.2 hA isC hCm
  refine va_callv (A1 := va_A wc H.size) hr hC.2.2 (fun q _ h => hF q h) hF (fun u t H1 locs1 ht hvm hp hB hz hk hS => ?_)
  obtain ⟨hP1, hK1, hD1⟩ := hB
  rw [ht] at hP1
  obtain ⟨hP2, hD2⟩ := va_join hC.1 hC.2.1 isC isR hCm hRm hn hdis hk hF hP1 hD1
  exact kk H1 locs1 ⟨hP2.sub isB (fm_some hBm), hD2.sub isB hnB hBm, hS⟩
theorem jpickT {q : Prop} [Decidable q] (h : q) (hC : jcx D cl A H0 w1 H locs) : jcx D cl A H0 (if q then w1 else w2) H locs := by rw [if_pos h]; exact hC
theorem jpickF {q : Prop} [Decidable q] (h : ¬ q) (hC : jcx D cl A H0 w2 H locs) : jcx D cl A H0 (if q then w1 else w2) H locs := by rw [if_neg h]; exact hC
theorem jastq {cI cC cL : ClassId} {adX bh ch adC adS : Nat → Nat} {st st' : jX} (hx : p.tables.exec = Jvm.exec) (hb : c.code = cc) (hK : va_K D vwCl [(cI, .int), (cC, .char), (cL, .object "SharedSyntax$Letters")] s) (hC : jcx D vwCl A H0 (wX cI cC cL adX bh ch adC adS st) H locs) {v i : Int32} (hj : vp_in v 3) (hi : vp_in i 3) (hdg : decode cc pc = .ok (.aastore, 1)) (he : st' = (jsA st.1 4 i.toNatClampNeg v, st.2.1, st.2.2))
    (kk : ∀ (H1 : Heap) (locs1 : List Loc), jcx D vwCl A H0 (wX cI cC cL adX bh ch adC adS st') H1 locs1 → W p l e R s m args below meth c H1 locs1 cells slots Q (F0 m (pc + 1) ls rest)) : W p l e R s m args below meth c H locs cells slots Q (F0 m pc ls (.ref (bh v.toNatClampNeg) :: .int i :: .ref (adX 4) :: rest)) := by
  have key : ∀ (k qk : Nat) (vs : List Value), v.toNatClampNeg = k → (wX cI cC cL adX bh ch adC adS st)[qk]? = some (bh k, .inr (0, vs)) → W p l e R s m args below meth c H locs cells slots Q (F0 m pc ls (.ref (bh v.toNatClampNeg) :: .int i :: .ref (adX 4) :: rest)) := by
    intro k qk vs hk hq
    subst hk
    refine va_astq hx hb hK hC.1 hC.2.1 hC.2.2 4 2 qk 0 (wX_e4 cI cC cL adX bh ch adC adS st) rfl hq rfl hi hdg (fun H1 locs1 h1 h2 h3 => ?_)
    rw [wX_aHt] at h1 h2
    rw [← he] at h1 h2
    exact kk H1 locs1 ⟨h1, h2, h3⟩
  obtain ⟨j, hj3, e1⟩ := vp_in_of hj (by decide)
  have e2 : v.toNatClampNeg = j := by rw [e1, nI_clamp (by omega)]
  rcases (show j = 0 ∨ j = 1 ∨ j = 2 by omega) with h | h | h
  · exact key 0 5 _ (e2.trans h) (wX_e5 cI cC cL adX bh ch adC adS st)
  · exact key 1 7 _ (e2.trans h) (wX_e7 cI cC cL adX bh ch adC adS st)
  · exact key 2 9 _ (e2.trans h) (wX_e9 cI cC cL adX bh ch adC adS st)
end JX
set_option maxHeartbeats 4000000 in
set_option maxRecDepth 100000 in
/-- takeTurns(): the two readings change their places -/
theorem cX_takeTurns (l : Launch) (dC : Nat → ClassId) (dI : Nat → Nat → Nat) (cI cC cL : ClassId) (sk sv adX bh ch adC adS : Nat → Nat) (z0 : jX) : Cv l yX_takeTurns (Cond.code yX_takeTurns prog_1_method_14_code 2 none :: TB) ({ frames := 0, cells := 0, slots := 0, locals := 0 }) (dC, dI) vwCl [(cI, .int), (cC, .char), (cL, .object "SharedSyntax$Letters")] (jEn sk sv) [.ref (adX 0)] (wX cI cC cL adX bh ch adC adS z0) (wX cI cC cL adX bh ch adS adC (z0.1, z0.2.2, z0.2.1)) := by
  refine Cv_of (cc := prog_1_method_14_code) (maxL := 2) (ret := none) (by decide) rfl (Nat.le_of_ble_eq_true rfl) ?_
  intro p e s m below meth c ls F hl hK hN hC
  obtain ⟨hx, hb, hml, hown, hts, hr, hlk⟩ := F
  have ht : ∀ w ∈ TB, w.before [.ref (adX 0)].toArray s = true := fun w h => hts w (List.mem_cons_of_mem _ h)
  have hl : lv_has ls 2 [(0, .ref (adX 0))] := hl
  refine lv_aload_n hx hb dX_takeTurns_0 rfl (lv_at hl 0 rfl) ?_
  refine va_get (D := (dC, dI)) (ci := 5) (v := .ref (adC 0)) (C := RcX) (T := TcX) (N := 6) hx hb ht in_cX hown hK hC.1 0 (wX_e0 cI cC cL adX bh ch adC adS z0) rfl 2 (by decide) (ht _ tw462) (fun _ h9 => h9) rfl dX_takeTurns_1 ?_
  refine lv_astore_n (lv' := [(1, .ref (adC 0)), (0, .ref (adX 0))]) hx hb dX_takeTurns_4 rfl hl (by decide) rfl (fun ls hl => ?_)
  refine lv_aload_n hx hb dX_takeTurns_5 rfl (lv_at hl 1 rfl) ?_
  refine lv_aload_n hx hb dX_takeTurns_6 rfl (lv_at hl 1 rfl) ?_
  refine va_get (D := (dC, dI)) (ci := 5) (v := .ref (adS 0)) (C := RcX) (T := TcX) (N := 6) hx hb ht in_cX hown hK hC.1 0 (wX_e0 cI cC cL adX bh ch adC adS z0) rfl 3 (by decide) (ht _ tw463) (fun _ h9 => h9) rfl dX_takeTurns_7 ?_
  refine va_put (D := (dC, dI)) (ci := 5) (v := .ref (adS 0)) (ty := .object "SharedSyntax$Reading") (C := RcX) (T := TcX) (N := 6) hx hb ht in_cX tycX tycX_ok nmcX hown hK hC.1 hC.2.1 hC.2.2 0 (wX_e0 cI cC cL adX bh ch adC adS z0) rfl 2 (by decide) (ht _ tw462) (fun _ h9 => h9) rfl (by decide +kernel) rfl rfl (Nat.le_of_ble_eq_true rfl) dX_takeTurns_10 (fun H locs hP hD hS => ?_)
  refine lv_aload_n hx hb dX_takeTurns_13 rfl (lv_at hl 1 rfl) ?_
  refine lv_aload_n hx hb dX_takeTurns_14 rfl (lv_at hl 0 rfl) ?_
  refine va_put (D := (dC, dI)) (ci := 5) (v := .ref (adC 0)) (ty := .object "SharedSyntax$Reading") (C := RcX) (T := TcX) (N := 6) hx hb ht in_cX tycX tycX_ok nmcX hown hK hP hD hS 0 rfl rfl 3 (by decide) (ht _ tw463) (fun _ h9 => h9) rfl (by decide +kernel) rfl rfl (Nat.le_of_ble_eq_true rfl) dX_takeTurns_15 (fun H locs hP hD hS => ?_)
  exact jret_v hx hb hr hlk ⟨hP.sub [0, 1, 2, 3, 4, 5, 6, 7, 8, 9, 10, 29, 30, 31, 32, 33, 34, 35, 36, 37, 38, 39, 40, 41, 42, 43, 44, 45, 46, 11, 12, 13, 14, 15, 16, 17, 18, 19, 20, 21, 22, 23, 24, 25, 26, 27, 28] rfl, hD.sub [0, 1, 2, 3, 4, 5, 6, 7, 8, 9, 10, 29, 30, 31, 32, 33, 34, 35, 36, 37, 38, 39, 40, 41, 42, 43, 44, 45, 46, 11, 12, 13, 14, 15, 16, 17, 18, 19, 20, 21, 22, 23, 24, 25, 26, 27, 28] rfl rfl, hS⟩ hK dX_takeTurns_18
