abbrev wX2X2 (cA : Nat → ClassId) (ad : Nat → Nat) (ao : Nat → Nat) (t : RowT) (o : RowT) : va_W := [(ad 0, .inr (2, [.ref (ad 1), .ref (ad 2), .int t.2.2])),
  (ad 1, .inl (cA 0, 120, .inl t.1)),
  (ad 2, .inl (cA 0, 120, .inl t.2.1)),
  (ao 0, .inr (2, [.ref (ao 1), .ref (ao 2), .int o.2.2])),
  (ao 1, .inl (cA 0, 120, .inl o.1)),
  (ao 2, .inl (cA 0, 120, .inl o.2.1))]
abbrev wX0X2 (cA : Nat → ClassId) (ad : Nat → Nat) (ao : Nat → Nat) (past : PasT) (o : RowT) : va_W := [(ad 0, .inr (0, [.ref (ad 1), .int past.2.1, .int past.2.2])),
  (ad 1, .inl (cA 3, 12, .inr (.inr (.inr (.inr (fun k => some (ad (2 + 3 * k)))))))),
  (ad 2, .inr (2, [.ref (ad 3), .ref (ad 4), .int (past.1 0).2.2])),
  (ad 3, .inl (cA 0, 120, .inl (past.1 0).1)),
  (ad 4, .inl (cA 0, 120, .inl (past.1 0).2.1)),
  (ad 5, .inr (2, [.ref (ad 6), .ref (ad 7), .int (past.1 1).2.2])),
  (ad 6, .inl (cA 0, 120, .inl (past.1 1).1)),
  (ad 7, .inl (cA 0, 120, .inl (past.1 1).2.1)),
  (ad 8, .inr (2, [.ref (ad 9), .ref (ad 10), .int (past.1 2).2.2])),
  (ad 9, .inl (cA 0, 120, .inl (past.1 2).1)),
  (ad 10, .inl (cA 0, 120, .inl (past.1 2).2.1)),
  (ad 11, .inr (2, [.ref (ad 12), .ref (ad 13), .int (past.1 3).2.2])),
  (ad 12, .inl (cA 0, 120, .inl (past.1 3).1)),
  (ad 13, .inl (cA 0, 120, .inl (past.1 3).2.1)),
  (ad 14, .inr (2, [.ref (ad 15), .ref (ad 16), .int (past.1 4).2.2])),
  (ad 15, .inl (cA 0, 120, .inl (past.1 4).1)),
  (ad 16, .inl (cA 0, 120, .inl (past.1 4).2.1)),
  (ad 17, .inr (2, [.ref (ad 18), .ref (ad 19), .int (past.1 5).2.2])),
  (ad 18, .inl (cA 0, 120, .inl (past.1 5).1)),
  (ad 19, .inl (cA 0, 120, .inl (past.1 5).2.1)),
  (ad 20, .inr (2, [.ref (ad 21), .ref (ad 22), .int (past.1 6).2.2])),
  (ad 21, .inl (cA 0, 120, .inl (past.1 6).1)),
  (ad 22, .inl (cA 0, 120, .inl (past.1 6).2.1)),
  (ad 23, .inr (2, [.ref (ad 24), .ref (ad 25), .int (past.1 7).2.2])),
  (ad 24, .inl (cA 0, 120, .inl (past.1 7).1)),
  (ad 25, .inl (cA 0, 120, .inl (past.1 7).2.1)),
  (ad 26, .inr (2, [.ref (ad 27), .ref (ad 28), .int (past.1 8).2.2])),
  (ad 27, .inl (cA 0, 120, .inl (past.1 8).1)),
  (ad 28, .inl (cA 0, 120, .inl (past.1 8).2.1)),
  (ad 29, .inr (2, [.ref (ad 30), .ref (ad 31), .int (past.1 9).2.2])),
  (ad 30, .inl (cA 0, 120, .inl (past.1 9).1)),
  (ad 31, .inl (cA 0, 120, .inl (past.1 9).2.1)),
  (ad 32, .inr (2, [.ref (ad 33), .ref (ad 34), .int (past.1 10).2.2])),
  (ad 33, .inl (cA 0, 120, .inl (past.1 10).1)),
  (ad 34, .inl (cA 0, 120, .inl (past.1 10).2.1)),
  (ad 35, .inr (2, [.ref (ad 36), .ref (ad 37), .int (past.1 11).2.2])),
  (ad 36, .inl (cA 0, 120, .inl (past.1 11).1)),
  (ad 37, .inl (cA 0, 120, .inl (past.1 11).2.1)),
  (ao 0, .inr (2, [.ref (ao 1), .ref (ao 2), .int o.2.2])),
  (ao 1, .inl (cA 0, 120, .inl o.1)),
  (ao 2, .inl (cA 0, 120, .inl o.2.1))]
abbrev wX0 (cA : Nat → ClassId) (ad : Nat → Nat) (past : PasT) : va_W := [(ad 0, .inr (0, [.ref (ad 1), .int past.2.1, .int past.2.2])),
  (ad 1, .inl (cA 3, 12, .inr (.inr (.inr (.inr (fun k => some (ad (2 + 3 * k)))))))),
  (ad 2, .inr (2, [.ref (ad 3), .ref (ad 4), .int (past.1 0).2.2])),
  (ad 3, .inl (cA 0, 120, .inl (past.1 0).1)),
  (ad 4, .inl (cA 0, 120, .inl (past.1 0).2.1)),
  (ad 5, .inr (2, [.ref (ad 6), .ref (ad 7), .int (past.1 1).2.2])),
  (ad 6, .inl (cA 0, 120, .inl (past.1 1).1)),
  (ad 7, .inl (cA 0, 120, .inl (past.1 1).2.1)),
  (ad 8, .inr (2, [.ref (ad 9), .ref (ad 10), .int (past.1 2).2.2])),
  (ad 9, .inl (cA 0, 120, .inl (past.1 2).1)),
  (ad 10, .inl (cA 0, 120, .inl (past.1 2).2.1)),
  (ad 11, .inr (2, [.ref (ad 12), .ref (ad 13), .int (past.1 3).2.2])),
  (ad 12, .inl (cA 0, 120, .inl (past.1 3).1)),
  (ad 13, .inl (cA 0, 120, .inl (past.1 3).2.1)),
  (ad 14, .inr (2, [.ref (ad 15), .ref (ad 16), .int (past.1 4).2.2])),
  (ad 15, .inl (cA 0, 120, .inl (past.1 4).1)),
  (ad 16, .inl (cA 0, 120, .inl (past.1 4).2.1)),
  (ad 17, .inr (2, [.ref (ad 18), .ref (ad 19), .int (past.1 5).2.2])),
  (ad 18, .inl (cA 0, 120, .inl (past.1 5).1)),
  (ad 19, .inl (cA 0, 120, .inl (past.1 5).2.1)),
  (ad 20, .inr (2, [.ref (ad 21), .ref (ad 22), .int (past.1 6).2.2])),
  (ad 21, .inl (cA 0, 120, .inl (past.1 6).1)),
  (ad 22, .inl (cA 0, 120, .inl (past.1 6).2.1)),
  (ad 23, .inr (2, [.ref (ad 24), .ref (ad 25), .int (past.1 7).2.2])),
  (ad 24, .inl (cA 0, 120, .inl (past.1 7).1)),
  (ad 25, .inl (cA 0, 120, .inl (past.1 7).2.1)),
  (ad 26, .inr (2, [.ref (ad 27), .ref (ad 28), .int (past.1 8).2.2])),
  (ad 27, .inl (cA 0, 120, .inl (past.1 8).1)),
  (ad 28, .inl (cA 0, 120, .inl (past.1 8).2.1)),
  (ad 29, .inr (2, [.ref (ad 30), .ref (ad 31), .int (past.1 9).2.2])),
  (ad 30, .inl (cA 0, 120, .inl (past.1 9).1)),
  (ad 31, .inl (cA 0, 120, .inl (past.1 9).2.1)),
  (ad 32, .inr (2, [.ref (ad 33), .ref (ad 34), .int (past.1 10).2.2])),
  (ad 33, .inl (cA 0, 120, .inl (past.1 10).1)),
  (ad 34, .inl (cA 0, 120, .inl (past.1 10).2.1)),
  (ad 35, .inr (2, [.ref (ad 36), .ref (ad 37), .int (past.1 11).2.2])),
  (ad 36, .inl (cA 0, 120, .inl (past.1 11).1)),
  (ad 37, .inl (cA 0, 120, .inl (past.1 11).2.1))]
abbrev wX1X4 (cA : Nat → ClassId) (ad : Nat → Nat) (ao : Nat → Nat) (rdr : RdrT) (rrow : RowT) (tape : TapT) : va_W := [(ad 0, .inr (1, [.ref (ad 1), .int rdr.1, .int rdr.2.1, .int rdr.2.2.1, .int rdr.2.2.2.1, .int rdr.2.2.2.2.1, .int rdr.2.2.2.2.2.1, .int rdr.2.2.2.2.2.2])),
  (ad 1, .inr (2, [.ref (ad 2), .ref (ad 3), .int rrow.2.2])),
  (ad 2, .inl (cA 0, 120, .inl rrow.1)),
  (ad 3, .inl (cA 0, 120, .inl rrow.2.1)),
  (ao 0, .inr (4, [.ref (ao 1), .int tape.2.1, .int tape.2.2.1, .int tape.2.2.2.1, .int tape.2.2.2.2.1, .int tape.2.2.2.2.2.1, .int tape.2.2.2.2.2.2])),
  (ao 1, .inl (cA 1, 900, .inl tape.1))]
abbrev wX4 (cA : Nat → ClassId) (ad : Nat → Nat) (tape : TapT) : va_W := [(ad 0, .inr (4, [.ref (ad 1), .int tape.2.1, .int tape.2.2.1, .int tape.2.2.2.1, .int tape.2.2.2.2.1, .int tape.2.2.2.2.2.1, .int tape.2.2.2.2.2.2])),
  (ad 1, .inl (cA 1, 900, .inl tape.1))]
abbrev wX2 (cA : Nat → ClassId) (ad : Nat → Nat) (t : RowT) : va_W := [(ad 0, .inr (2, [.ref (ad 1), .ref (ad 2), .int t.2.2])),
  (ad 1, .inl (cA 0, 120, .inl t.1)),
  (ad 2, .inl (cA 0, 120, .inl t.2.1))]
abbrev wX3 (cA : Nat → ClassId) (ad : Nat → Nat) (t : TalT) : va_W := [(ad 0, .inr (3, [.ref (ad 1), .ref (ad 2), .ref (ad 3), .ref (ad 4), .int t.2.2.2.2.1, .int t.2.2.2.2.2.1, .int t.2.2.2.2.2.2.1, .int t.2.2.2.2.2.2.2])),
  (ad 1, .inl (cA 0, 1000, .inl t.1)),
  (ad 2, .inl (cA 0, 1000, .inl t.2.1)),
  (ad 3, .inl (cA 0, 1000, .inl t.2.2.1)),
  (ad 4, .inl (cA 0, 120, .inl t.2.2.2.1))]
abbrev wD_tape (cA : Nat → ClassId) (ad : Nat → Nat) (block : Int32) (ties : Int32) (lines : Int32) (pmn : Int32) (tape : TapT) : va_W := [(ad 0, .inr (5, [.ref (ad 1), .ref (ad 3), .ref (ad 7), .ref (ad 10), .ref (ad 13), .ref (ad 51), .ref (ad 56), .ref (ad 61), .int block, .int ties, .int lines, .int pmn])),
  (ad 1, .inr (4, [.ref (ad 2), .int tape.2.1, .int tape.2.2.1, .int tape.2.2.2.1, .int tape.2.2.2.2.1, .int tape.2.2.2.2.2.1, .int tape.2.2.2.2.2.2])),
  (ad 2, .inl (cA 1, 900, .inl tape.1))]
abbrev wD_tape_rdr_row_past (cA : Nat → ClassId) (ad : Nat → Nat) (block : Int32) (ties : Int32) (lines : Int32) (pmn : Int32) (tape : TapT) (rdr : RdrT) (rrow : RowT) (row : RowT) (past : PasT) : va_W := [(ad 0, .inr (5, [.ref (ad 1), .ref (ad 3), .ref (ad 7), .ref (ad 10), .ref (ad 13), .ref (ad 51), .ref (ad 56), .ref (ad 61), .int block, .int ties, .int lines, .int pmn])),
  (ad 1, .inr (4, [.ref (ad 2), .int tape.2.1, .int tape.2.2.1, .int tape.2.2.2.1, .int tape.2.2.2.2.1, .int tape.2.2.2.2.2.1, .int tape.2.2.2.2.2.2])),
  (ad 2, .inl (cA 1, 900, .inl tape.1)),
  (ad 3, .inr (1, [.ref (ad 4), .int rdr.1, .int rdr.2.1, .int rdr.2.2.1, .int rdr.2.2.2.1, .int rdr.2.2.2.2.1, .int rdr.2.2.2.2.2.1, .int rdr.2.2.2.2.2.2])),
  (ad 4, .inr (2, [.ref (ad 5), .ref (ad 6), .int rrow.2.2])),
  (ad 5, .inl (cA 0, 120, .inl rrow.1)),
  (ad 6, .inl (cA 0, 120, .inl rrow.2.1)),
  (ad 7, .inr (2, [.ref (ad 8), .ref (ad 9), .int row.2.2])),
  (ad 8, .inl (cA 0, 120, .inl row.1)),
  (ad 9, .inl (cA 0, 120, .inl row.2.1)),
  (ad 13, .inr (0, [.ref (ad 14), .int past.2.1, .int past.2.2])),
  (ad 14, .inl (cA 3, 12, .inr (.inr (.inr (.inr (fun k => some (ad (13 + (2 + 3 * k))))))))),
  (ad 15, .inr (2, [.ref (ad 16), .ref (ad 17), .int (past.1 0).2.2])),
  (ad 16, .inl (cA 0, 120, .inl (past.1 0).1)),
  (ad 17, .inl (cA 0, 120, .inl (past.1 0).2.1)),
  (ad 18, .inr (2, [.ref (ad 19), .ref (ad 20), .int (past.1 1).2.2])),
  (ad 19, .inl (cA 0, 120, .inl (past.1 1).1)),
  (ad 20, .inl (cA 0, 120, .inl (past.1 1).2.1)),
  (ad 21, .inr (2, [.ref (ad 22), .ref (ad 23), .int (past.1 2).2.2])),
  (ad 22, .inl (cA 0, 120, .inl (past.1 2).1)),
  (ad 23, .inl (cA 0, 120, .inl (past.1 2).2.1)),
  (ad 24, .inr (2, [.ref (ad 25), .ref (ad 26), .int (past.1 3).2.2])),
  (ad 25, .inl (cA 0, 120, .inl (past.1 3).1)),
  (ad 26, .inl (cA 0, 120, .inl (past.1 3).2.1)),
  (ad 27, .inr (2, [.ref (ad 28), .ref (ad 29), .int (past.1 4).2.2])),
  (ad 28, .inl (cA 0, 120, .inl (past.1 4).1)),
  (ad 29, .inl (cA 0, 120, .inl (past.1 4).2.1)),
  (ad 30, .inr (2, [.ref (ad 31), .ref (ad 32), .int (past.1 5).2.2])),
  (ad 31, .inl (cA 0, 120, .inl (past.1 5).1)),
  (ad 32, .inl (cA 0, 120, .inl (past.1 5).2.1)),
  (ad 33, .inr (2, [.ref (ad 34), .ref (ad 35), .int (past.1 6).2.2])),
  (ad 34, .inl (cA 0, 120, .inl (past.1 6).1)),
  (ad 35, .inl (cA 0, 120, .inl (past.1 6).2.1)),
  (ad 36, .inr (2, [.ref (ad 37), .ref (ad 38), .int (past.1 7).2.2])),
  (ad 37, .inl (cA 0, 120, .inl (past.1 7).1)),
  (ad 38, .inl (cA 0, 120, .inl (past.1 7).2.1)),
  (ad 39, .inr (2, [.ref (ad 40), .ref (ad 41), .int (past.1 8).2.2])),
  (ad 40, .inl (cA 0, 120, .inl (past.1 8).1)),
  (ad 41, .inl (cA 0, 120, .inl (past.1 8).2.1)),
  (ad 42, .inr (2, [.ref (ad 43), .ref (ad 44), .int (past.1 9).2.2])),
  (ad 43, .inl (cA 0, 120, .inl (past.1 9).1)),
  (ad 44, .inl (cA 0, 120, .inl (past.1 9).2.1)),
  (ad 45, .inr (2, [.ref (ad 46), .ref (ad 47), .int (past.1 10).2.2])),
  (ad 46, .inl (cA 0, 120, .inl (past.1 10).1)),
  (ad 47, .inl (cA 0, 120, .inl (past.1 10).2.1)),
  (ad 48, .inr (2, [.ref (ad 49), .ref (ad 50), .int (past.1 11).2.2])),
  (ad 49, .inl (cA 0, 120, .inl (past.1 11).1)),
  (ad 50, .inl (cA 0, 120, .inl (past.1 11).2.1))]
abbrev wD_row (cA : Nat → ClassId) (ad : Nat → Nat) (block : Int32) (ties : Int32) (lines : Int32) (pmn : Int32) (row : RowT) : va_W := [(ad 0, .inr (5, [.ref (ad 1), .ref (ad 3), .ref (ad 7), .ref (ad 10), .ref (ad 13), .ref (ad 51), .ref (ad 56), .ref (ad 61), .int block, .int ties, .int lines, .int pmn])),
  (ad 7, .inr (2, [.ref (ad 8), .ref (ad 9), .int row.2.2])),
  (ad 8, .inl (cA 0, 120, .inl row.1)),
  (ad 9, .inl (cA 0, 120, .inl row.2.1))]
abbrev wD_0_X2 (cA : Nat → ClassId) (ad : Nat → Nat) (ao : Nat → Nat) (block : Int32) (ties : Int32) (lines : Int32) (pmn : Int32) (o : RowT) : va_W := [(ad 0, .inr (5, [.ref (ad 1), .ref (ad 3), .ref (ad 7), .ref (ad 10), .ref (ad 13), .ref (ad 51), .ref (ad 56), .ref (ad 61), .int block, .int ties, .int lines, .int pmn])),
  (ao 0, .inr (2, [.ref (ao 1), .ref (ao 2), .int o.2.2])),
  (ao 1, .inl (cA 0, 120, .inl o.1)),
  (ao 2, .inl (cA 0, 120, .inl o.2.1))]
abbrev wD_0_X2_X2 (cA : Nat → ClassId) (ad : Nat → Nat) (ao : Nat → Nat) (ap : Nat → Nat) (block : Int32) (ties : Int32) (lines : Int32) (pmn : Int32) (o : RowT) (b : RowT) : va_W := [(ad 0, .inr (5, [.ref (ad 1), .ref (ad 3), .ref (ad 7), .ref (ad 10), .ref (ad 13), .ref (ad 51), .ref (ad 56), .ref (ad 61), .int block, .int ties, .int lines, .int pmn])),
  (ao 0, .inr (2, [.ref (ao 1), .ref (ao 2), .int o.2.2])),
  (ao 1, .inl (cA 0, 120, .inl o.1)),
  (ao 2, .inl (cA 0, 120, .inl o.2.1)),
  (ap 0, .inr (2, [.ref (ap 1), .ref (ap 2), .int b.2.2])),
  (ap 1, .inl (cA 0, 120, .inl b.1)),
  (ap 2, .inl (cA 0, 120, .inl b.2.1))]
abbrev wD_row_next_past (cA : Nat → ClassId) (ad : Nat → Nat) (block : Int32) (ties : Int32) (lines : Int32) (pmn : Int32) (row : RowT) (next : RowT) (past : PasT) : va_W := [(ad 0, .inr (5, [.ref (ad 1), .ref (ad 3), .ref (ad 7), .ref (ad 10), .ref (ad 13), .ref (ad 51), .ref (ad 56), .ref (ad 61), .int block, .int ties, .int lines, .int pmn])),
  (ad 7, .inr (2, [.ref (ad 8), .ref (ad 9), .int row.2.2])),
  (ad 8, .inl (cA 0, 120, .inl row.1)),
  (ad 9, .inl (cA 0, 120, .inl row.2.1)),
  (ad 10, .inr (2, [.ref (ad 11), .ref (ad 12), .int next.2.2])),
  (ad 11, .inl (cA 0, 120, .inl next.1)),
  (ad 12, .inl (cA 0, 120, .inl next.2.1)),
  (ad 13, .inr (0, [.ref (ad 14), .int past.2.1, .int past.2.2])),
  (ad 14, .inl (cA 3, 12, .inr (.inr (.inr (.inr (fun k => some (ad (13 + (2 + 3 * k))))))))),
  (ad 15, .inr (2, [.ref (ad 16), .ref (ad 17), .int (past.1 0).2.2])),
  (ad 16, .inl (cA 0, 120, .inl (past.1 0).1)),
  (ad 17, .inl (cA 0, 120, .inl (past.1 0).2.1)),
  (ad 18, .inr (2, [.ref (ad 19), .ref (ad 20), .int (past.1 1).2.2])),
  (ad 19, .inl (cA 0, 120, .inl (past.1 1).1)),
  (ad 20, .inl (cA 0, 120, .inl (past.1 1).2.1)),
  (ad 21, .inr (2, [.ref (ad 22), .ref (ad 23), .int (past.1 2).2.2])),
  (ad 22, .inl (cA 0, 120, .inl (past.1 2).1)),
  (ad 23, .inl (cA 0, 120, .inl (past.1 2).2.1)),
  (ad 24, .inr (2, [.ref (ad 25), .ref (ad 26), .int (past.1 3).2.2])),
  (ad 25, .inl (cA 0, 120, .inl (past.1 3).1)),
  (ad 26, .inl (cA 0, 120, .inl (past.1 3).2.1)),
  (ad 27, .inr (2, [.ref (ad 28), .ref (ad 29), .int (past.1 4).2.2])),
  (ad 28, .inl (cA 0, 120, .inl (past.1 4).1)),
  (ad 29, .inl (cA 0, 120, .inl (past.1 4).2.1)),
  (ad 30, .inr (2, [.ref (ad 31), .ref (ad 32), .int (past.1 5).2.2])),
  (ad 31, .inl (cA 0, 120, .inl (past.1 5).1)),
  (ad 32, .inl (cA 0, 120, .inl (past.1 5).2.1)),
  (ad 33, .inr (2, [.ref (ad 34), .ref (ad 35), .int (past.1 6).2.2])),
  (ad 34, .inl (cA 0, 120, .inl (past.1 6).1)),
  (ad 35, .inl (cA 0, 120, .inl (past.1 6).2.1)),
  (ad 36, .inr (2, [.ref (ad 37), .ref (ad 38), .int (past.1 7).2.2])),
  (ad 37, .inl (cA 0, 120, .inl (past.1 7).1)),
  (ad 38, .inl (cA 0, 120, .inl (past.1 7).2.1)),
  (ad 39, .inr (2, [.ref (ad 40), .ref (ad 41), .int (past.1 8).2.2])),
  (ad 40, .inl (cA 0, 120, .inl (past.1 8).1)),
  (ad 41, .inl (cA 0, 120, .inl (past.1 8).2.1)),
  (ad 42, .inr (2, [.ref (ad 43), .ref (ad 44), .int (past.1 9).2.2])),
  (ad 43, .inl (cA 0, 120, .inl (past.1 9).1)),
  (ad 44, .inl (cA 0, 120, .inl (past.1 9).2.1)),
  (ad 45, .inr (2, [.ref (ad 46), .ref (ad 47), .int (past.1 10).2.2])),
  (ad 46, .inl (cA 0, 120, .inl (past.1 10).1)),
  (ad 47, .inl (cA 0, 120, .inl (past.1 10).2.1)),
  (ad 48, .inr (2, [.ref (ad 49), .ref (ad 50), .int (past.1 11).2.2])),
  (ad 49, .inl (cA 0, 120, .inl (past.1 11).1)),
  (ad 50, .inl (cA 0, 120, .inl (past.1 11).2.1))]
abbrev wD_0 (cA : Nat → ClassId) (ad : Nat → Nat) (block : Int32) (ties : Int32) (lines : Int32) (pmn : Int32) : va_W := [(ad 0, .inr (5, [.ref (ad 1), .ref (ad 3), .ref (ad 7), .ref (ad 10), .ref (ad 13), .ref (ad 51), .ref (ad 56), .ref (ad 61), .int block, .int ties, .int lines, .int pmn]))]
abbrev wD_row_past (cA : Nat → ClassId) (ad : Nat → Nat) (block : Int32) (ties : Int32) (lines : Int32) (pmn : Int32) (row : RowT) (past : PasT) : va_W := [(ad 0, .inr (5, [.ref (ad 1), .ref (ad 3), .ref (ad 7), .ref (ad 10), .ref (ad 13), .ref (ad 51), .ref (ad 56), .ref (ad 61), .int block, .int ties, .int lines, .int pmn])),
  (ad 7, .inr (2, [.ref (ad 8), .ref (ad 9), .int row.2.2])),
  (ad 8, .inl (cA 0, 120, .inl row.1)),
  (ad 9, .inl (cA 0, 120, .inl row.2.1)),
  (ad 13, .inr (0, [.ref (ad 14), .int past.2.1, .int past.2.2])),
  (ad 14, .inl (cA 3, 12, .inr (.inr (.inr (.inr (fun k => some (ad (13 + (2 + 3 * k))))))))),
  (ad 15, .inr (2, [.ref (ad 16), .ref (ad 17), .int (past.1 0).2.2])),
  (ad 16, .inl (cA 0, 120, .inl (past.1 0).1)),
  (ad 17, .inl (cA 0, 120, .inl (past.1 0).2.1)),
  (ad 18, .inr (2, [.ref (ad 19), .ref (ad 20), .int (past.1 1).2.2])),
  (ad 19, .inl (cA 0, 120, .inl (past.1 1).1)),
  (ad 20, .inl (cA 0, 120, .inl (past.1 1).2.1)),
  (ad 21, .inr (2, [.ref (ad 22), .ref (ad 23), .int (past.1 2).2.2])),
  (ad 22, .inl (cA 0, 120, .inl (past.1 2).1)),
  (ad 23, .inl (cA 0, 120, .inl (past.1 2).2.1)),
  (ad 24, .inr (2, [.ref (ad 25), .ref (ad 26), .int (past.1 3).2.2])),
  (ad 25, .inl (cA 0, 120, .inl (past.1 3).1)),
  (ad 26, .inl (cA 0, 120, .inl (past.1 3).2.1)),
  (ad 27, .inr (2, [.ref (ad 28), .ref (ad 29), .int (past.1 4).2.2])),
  (ad 28, .inl (cA 0, 120, .inl (past.1 4).1)),
  (ad 29, .inl (cA 0, 120, .inl (past.1 4).2.1)),
  (ad 30, .inr (2, [.ref (ad 31), .ref (ad 32), .int (past.1 5).2.2])),
  (ad 31, .inl (cA 0, 120, .inl (past.1 5).1)),
  (ad 32, .inl (cA 0, 120, .inl (past.1 5).2.1)),
  (ad 33, .inr (2, [.ref (ad 34), .ref (ad 35), .int (past.1 6).2.2])),
  (ad 34, .inl (cA 0, 120, .inl (past.1 6).1)),
  (ad 35, .inl (cA 0, 120, .inl (past.1 6).2.1)),
  (ad 36, .inr (2, [.ref (ad 37), .ref (ad 38), .int (past.1 7).2.2])),
  (ad 37, .inl (cA 0, 120, .inl (past.1 7).1)),
  (ad 38, .inl (cA 0, 120, .inl (past.1 7).2.1)),
  (ad 39, .inr (2, [.ref (ad 40), .ref (ad 41), .int (past.1 8).2.2])),
  (ad 40, .inl (cA 0, 120, .inl (past.1 8).1)),
  (ad 41, .inl (cA 0, 120, .inl (past.1 8).2.1)),
  (ad 42, .inr (2, [.ref (ad 43), .ref (ad 44), .int (past.1 9).2.2])),
  (ad 43, .inl (cA 0, 120, .inl (past.1 9).1)),
  (ad 44, .inl (cA 0, 120, .inl (past.1 9).2.1)),
  (ad 45, .inr (2, [.ref (ad 46), .ref (ad 47), .int (past.1 10).2.2])),
  (ad 46, .inl (cA 0, 120, .inl (past.1 10).1)),
  (ad 47, .inl (cA 0, 120, .inl (past.1 10).2.1)),
  (ad 48, .inr (2, [.ref (ad 49), .ref (ad 50), .int (past.1 11).2.2])),
  (ad 49, .inl (cA 0, 120, .inl (past.1 11).1)),
  (ad 50, .inl (cA 0, 120, .inl (past.1 11).2.1))]
abbrev wD_row_tally (cA : Nat → ClassId) (ad : Nat → Nat) (block : Int32) (ties : Int32) (lines : Int32) (pmn : Int32) (row : RowT) (tally : TalT) : va_W := [(ad 0, .inr (5, [.ref (ad 1), .ref (ad 3), .ref (ad 7), .ref (ad 10), .ref (ad 13), .ref (ad 51), .ref (ad 56), .ref (ad 61), .int block, .int ties, .int lines, .int pmn])),
  (ad 7, .inr (2, [.ref (ad 8), .ref (ad 9), .int row.2.2])),
  (ad 8, .inl (cA 0, 120, .inl row.1)),
  (ad 9, .inl (cA 0, 120, .inl row.2.1)),
  (ad 51, .inr (3, [.ref (ad 52), .ref (ad 53), .ref (ad 54), .ref (ad 55), .int tally.2.2.2.2.1, .int tally.2.2.2.2.2.1, .int tally.2.2.2.2.2.2.1, .int tally.2.2.2.2.2.2.2])),
  (ad 52, .inl (cA 0, 1000, .inl tally.1)),
  (ad 53, .inl (cA 0, 1000, .inl tally.2.1)),
  (ad 54, .inl (cA 0, 1000, .inl tally.2.2.1)),
  (ad 55, .inl (cA 0, 120, .inl tally.2.2.2.1))]
abbrev wD_tape_row_past_tally (cA : Nat → ClassId) (ad : Nat → Nat) (block : Int32) (ties : Int32) (lines : Int32) (pmn : Int32) (tape : TapT) (row : RowT) (past : PasT) (tally : TalT) : va_W := [(ad 0, .inr (5, [.ref (ad 1), .ref (ad 3), .ref (ad 7), .ref (ad 10), .ref (ad 13), .ref (ad 51), .ref (ad 56), .ref (ad 61), .int block, .int ties, .int lines, .int pmn])),
  (ad 1, .inr (4, [.ref (ad 2), .int tape.2.1, .int tape.2.2.1, .int tape.2.2.2.1, .int tape.2.2.2.2.1, .int tape.2.2.2.2.2.1, .int tape.2.2.2.2.2.2])),
  (ad 2, .inl (cA 1, 900, .inl tape.1)),
  (ad 7, .inr (2, [.ref (ad 8), .ref (ad 9), .int row.2.2])),
  (ad 8, .inl (cA 0, 120, .inl row.1)),
  (ad 9, .inl (cA 0, 120, .inl row.2.1)),
  (ad 13, .inr (0, [.ref (ad 14), .int past.2.1, .int past.2.2])),
  (ad 14, .inl (cA 3, 12, .inr (.inr (.inr (.inr (fun k => some (ad (13 + (2 + 3 * k))))))))),
  (ad 15, .inr (2, [.ref (ad 16), .ref (ad 17), .int (past.1 0).2.2])),
  (ad 16, .inl (cA 0, 120, .inl (past.1 0).1)),
  (ad 17, .inl (cA 0, 120, .inl (past.1 0).2.1)),
  (ad 18, .inr (2, [.ref (ad 19), .ref (ad 20), .int (past.1 1).2.2])),
  (ad 19, .inl (cA 0, 120, .inl (past.1 1).1)),
  (ad 20, .inl (cA 0, 120, .inl (past.1 1).2.1)),
  (ad 21, .inr (2, [.ref (ad 22), .ref (ad 23), .int (past.1 2).2.2])),
  (ad 22, .inl (cA 0, 120, .inl (past.1 2).1)),
  (ad 23, .inl (cA 0, 120, .inl (past.1 2).2.1)),
  (ad 24, .inr (2, [.ref (ad 25), .ref (ad 26), .int (past.1 3).2.2])),
  (ad 25, .inl (cA 0, 120, .inl (past.1 3).1)),
  (ad 26, .inl (cA 0, 120, .inl (past.1 3).2.1)),
  (ad 27, .inr (2, [.ref (ad 28), .ref (ad 29), .int (past.1 4).2.2])),
  (ad 28, .inl (cA 0, 120, .inl (past.1 4).1)),
  (ad 29, .inl (cA 0, 120, .inl (past.1 4).2.1)),
  (ad 30, .inr (2, [.ref (ad 31), .ref (ad 32), .int (past.1 5).2.2])),
  (ad 31, .inl (cA 0, 120, .inl (past.1 5).1)),
  (ad 32, .inl (cA 0, 120, .inl (past.1 5).2.1)),
  (ad 33, .inr (2, [.ref (ad 34), .ref (ad 35), .int (past.1 6).2.2])),
  (ad 34, .inl (cA 0, 120, .inl (past.1 6).1)),
  (ad 35, .inl (cA 0, 120, .inl (past.1 6).2.1)),
  (ad 36, .inr (2, [.ref (ad 37), .ref (ad 38), .int (past.1 7).2.2])),
  (ad 37, .inl (cA 0, 120, .inl (past.1 7).1)),
  (ad 38, .inl (cA 0, 120, .inl (past.1 7).2.1)),
  (ad 39, .inr (2, [.ref (ad 40), .ref (ad 41), .int (past.1 8).2.2])),
  (ad 40, .inl (cA 0, 120, .inl (past.1 8).1)),
  (ad 41, .inl (cA 0, 120, .inl (past.1 8).2.1)),
  (ad 42, .inr (2, [.ref (ad 43), .ref (ad 44), .int (past.1 9).2.2])),
  (ad 43, .inl (cA 0, 120, .inl (past.1 9).1)),
  (ad 44, .inl (cA 0, 120, .inl (past.1 9).2.1)),
  (ad 45, .inr (2, [.ref (ad 46), .ref (ad 47), .int (past.1 10).2.2])),
  (ad 46, .inl (cA 0, 120, .inl (past.1 10).1)),
  (ad 47, .inl (cA 0, 120, .inl (past.1 10).2.1)),
  (ad 48, .inr (2, [.ref (ad 49), .ref (ad 50), .int (past.1 11).2.2])),
  (ad 49, .inl (cA 0, 120, .inl (past.1 11).1)),
  (ad 50, .inl (cA 0, 120, .inl (past.1 11).2.1)),
  (ad 51, .inr (3, [.ref (ad 52), .ref (ad 53), .ref (ad 54), .ref (ad 55), .int tally.2.2.2.2.1, .int tally.2.2.2.2.2.1, .int tally.2.2.2.2.2.2.1, .int tally.2.2.2.2.2.2.2])),
  (ad 52, .inl (cA 0, 1000, .inl tally.1)),
  (ad 53, .inl (cA 0, 1000, .inl tally.2.1)),
  (ad 54, .inl (cA 0, 1000, .inl tally.2.2.1)),
  (ad 55, .inl (cA 0, 120, .inl tally.2.2.2.1))]
def mX2_take_L10 (o : RowT) : Nat → Int32 → RowT → Option (RowT)
  | 0, _, _ => none
  | n + 1, x2, t =>
    if t.2.2 ≤ x2 then
      some t
    else
      (rd o.1 120 x2).bind fun v3 =>
      (wr t.1 120 x2 v3).bind fun a4 =>
      (rd o.2.1 120 x2).bind fun v5 =>
      (wr t.2.1 120 x2 v5).bind fun a6 =>
      mX2_take_L10 o n (x2 + 1) (a4, a6, t.2.2)
def mX2_take (t : RowT) (o : RowT)  : Option (RowT) :=
  (mX2_take_L10 o FU 0 (t.1, t.2.1, o.2.2)).bind fun z7 =>
  some z7
def mX0_keep (past : PasT) (o : RowT)  : Option (PasT) :=
  (irm (past.2.2 + 1) 12).bind fun v1 =>
  (rx 12 v1).bind fun j2 =>
  (mX2_take (past.1 j2) o).bind fun q3 =>
  some ((va_up past.1 j2 q3), (if 12 < (past.2.1 + 1) then 12 else (past.2.1 + 1)), v1)
def mJ9_floorMod_7cf53  (x0 : Int32) (x1 : Int32) : Option (Int32) :=
  (irm x0 x1).bind fun v1 =>
  if 0 ≤ (x0 ^^^ x1) then
    some v1
  else
    if v1 = 0 then
      some v1
    else
      some (v1 + x1)
def mX0_ago (past : PasT) (x1 : Int32) : Option (Nat) :=
  (mJ9_floorMod_7cf53 (past.2.2 - (x1 - 1)) 12).bind fun q1 =>
  (rx 12 q1).bind fun j2 =>
  some j2
def mX0_dropLatest (past : PasT)  : Option (PasT) :=
  (mJ9_floorMod_7cf53 (past.2.2 - 1) 12).bind fun q1 =>
  some (past.1, (past.2.1 - 1), q1)
def mX1_refuse (rdr : RdrT) (tape : TapT) (x2 : Int32) : Option (Int32 × RdrT) :=
  some (0, (rdr.1, rdr.2.1, rdr.2.2.1, x2, tape.2.2.2.2.1, rdr.2.2.2.2.2.1, rdr.2.2.2.2.2.2))
def mX4_isBlank  (x0 : Int32) : Option (Int32) :=
  if x0 = 10 then
    some 1
  else
    if ¬ x0 = 32 then
      some 0
    else
      some 1
def mX4_isDigit  (x0 : Int32) : Option (Int32) :=
  if x0 < 48 then
    some 0
  else
    if 57 < x0 then
      some 0
    else
      some 1
def mX4_isLetter  (x0 : Int32) : Option (Int32) :=
  if x0 < 97 then
    some 0
  else
    if 122 < x0 then
      some 0
    else
      some 1
def mX4_readNumber_L10  : Nat → TapT → Option (TapT)
  | 0, _ => none
  | n + 1, tape =>
    if tape.2.2.1 ≤ tape.2.2.2.1 then
      some tape
    else
      (rd tape.1 900 tape.2.2.2.1).bind fun v3 =>
      (mX4_isDigit v3).bind fun q4 =>
      if q4 = 0 then
        some tape
      else
        (rd tape.1 900 tape.2.2.2.1).bind fun v6 =>
        mX4_readNumber_L10  n (tape.1, tape.2.1, tape.2.2.1, (tape.2.2.2.1 + 1), tape.2.2.2.2.1, tape.2.2.2.2.2.1, (if 100000 < ((tape.2.2.2.2.2.2 * 10) + (v6 - 48)) then 100000 else ((tape.2.2.2.2.2.2 * 10) + (v6 - 48))))
def mX4_readNumber (tape : TapT)  : Option (TapT) :=
  (mX4_readNumber_L10  FU (tape.1, tape.2.1, tape.2.2.1, tape.2.2.2.1, tape.2.2.2.2.1, 2, 0)).bind fun z7 =>
  some z7
def mX4_readWord_L5  : Nat → TapT → Option (TapT)
  | 0, _ => none
  | n + 1, tape =>
    if tape.2.2.1 ≤ tape.2.2.2.1 then
      some tape
    else
      (rd tape.1 900 tape.2.2.2.1).bind fun v3 =>
      (mX4_isLetter v3).bind fun q4 =>
      if q4 = 0 then
        some tape
      else
        mX4_readWord_L5  n (tape.1, tape.2.1, tape.2.2.1, (tape.2.2.2.1 + 1), tape.2.2.2.2.1, tape.2.2.2.2.2.1, tape.2.2.2.2.2.2)
def mX4_readWord (tape : TapT)  : Option (TapT) :=
  (mX4_readWord_L5  FU (tape.1, tape.2.1, tape.2.2.1, tape.2.2.2.1, tape.2.2.2.2.1, 1, tape.2.2.2.2.2.2)).bind fun z6 =>
  some z6
def mX4_advance_L0  : Nat → TapT → Option (TapT)
  | 0, _ => none
  | n + 1, tape =>
    if tape.2.2.1 ≤ tape.2.2.2.1 then
      some tape
    else
      (rd tape.1 900 tape.2.2.2.1).bind fun v3 =>
      (mX4_isBlank v3).bind fun q4 =>
      if q4 = 0 then
        some tape
      else
        mX4_advance_L0  n (tape.1, tape.2.1, tape.2.2.1, (tape.2.2.2.1 + 1), tape.2.2.2.2.1, tape.2.2.2.2.2.1, tape.2.2.2.2.2.2)
def mX4_advance (tape : TapT)  : Option (TapT) :=
  (mX4_advance_L0  FU tape).bind fun z6 =>
  if z6.2.2.2.1 < z6.2.2.1 then
    (rd z6.1 900 z6.2.2.2.1).bind fun v8 =>
    (mX4_isLetter v8).bind fun q9 =>
    if q9 = 0 then
      (rd z6.1 900 z6.2.2.2.1).bind fun v11 =>
      (mX4_isDigit v11).bind fun q12 =>
      if q12 = 0 then
        (rd z6.1 900 z6.2.2.2.1).bind fun v14 =>
        (if ¬ v14 = 59 then
          some 4
        else
          some 3).bind fun (z15 : Int32) =>
        some (z6.1, z6.2.1, z6.2.2.1, (z6.2.2.2.1 + 1), z6.2.2.2.1, z15, z6.2.2.2.2.2.2)
      else
        (mX4_readNumber (z6.1, z6.2.1, z6.2.2.1, z6.2.2.2.1, z6.2.2.2.1, z6.2.2.2.2.2.1, z6.2.2.2.2.2.2)).bind fun q18 =>
        some q18
    else
      (mX4_readWord (z6.1, z6.2.1, z6.2.2.1, z6.2.2.2.1, z6.2.2.2.1, z6.2.2.2.2.2.1, z6.2.2.2.2.2.2)).bind fun q19 =>
      some q19
  else
    some (z6.1, z6.2.1, z6.2.2.1, z6.2.2.2.1, z6.2.2.2.1, 0, z6.2.2.2.2.2.2)
def mX1_readEnd (rdr : RdrT) (tape : TapT)  : Option (Int32 × RdrT × TapT) :=
  if tape.2.2.2.2.2.1 = 3 then
    (mX4_advance tape).bind fun q2 =>
    some (1, rdr, q2)
  else
    (mX1_refuse rdr tape 1).bind fun q3 =>
    some (q3.1, q3.2, tape)
def mX1_isNumber (rdr : RdrT) (tape : TapT) (x2 : Int32) (x3 : Int32) : Option (Int32 × RdrT) :=
  if tape.2.2.2.2.2.1 = 2 then
    if tape.2.2.2.2.2.2 < x2 then
      (mX1_refuse rdr tape 2).bind fun q3 =>
      some (q3.1, q3.2)
    else
      if tape.2.2.2.2.2.2 ≤ x3 then
        some (1, rdr)
      else
        (mX1_refuse rdr tape 2).bind fun q5 =>
        some (q5.1, q5.2)
  else
    (mX1_refuse rdr tape 1).bind fun q6 =>
    some (q6.1, q6.2)
def mX1_readBlock (rdr : RdrT) (tape : TapT)  : Option (Int32 × RdrT × TapT) :=
  if rdr.2.2.2.2.2.1 = 0 then
    (mX4_advance tape).bind fun q2 =>
    (mX1_isNumber (rdr.1, rdr.2.1, rdr.2.2.1, rdr.2.2.2.1, rdr.2.2.2.2.1, 1, rdr.2.2.2.2.2.2) q2 2 20).bind fun q3 =>
    if ¬ q3.1 = 0 then
      (mX4_advance q2).bind fun q5 =>
      some (1, (q2.2.2.2.2.2.2, q3.2.2.1, q3.2.2.2.1, q3.2.2.2.2.1, q3.2.2.2.2.2.1, q3.2.2.2.2.2.2.1, q3.2.2.2.2.2.2.2), q5)
    else
      some (0, q3.2, q2)
  else
    (mX1_refuse rdr tape 3).bind fun q6 =>
    some (q6.1, q6.2, tape)
def mX2_open_L5 (x1 : Int32) : Nat → Int32 → RowT → Option (RowT)
  | 0, _, _ => none
  | n + 1, x3, t =>
    if x3 ≤ x1 then
      some t
    else
      (rd t.1 120 (x3 - 1)).bind fun v3 =>
      (wr t.1 120 x3 v3).bind fun a4 =>
      (rd t.2.1 120 (x3 - 1)).bind fun v5 =>
      (wr t.2.1 120 x3 v5).bind fun a6 =>
      mX2_open_L5 x1 n (x3 + (-1)) (a4, a6, t.2.2)
def mX2_open (t : RowT) (x1 : Int32) (x2 : Int32) : Option (RowT) :=
  (mX2_open_L5 x1 FU t.2.2 t).bind fun z7 =>
  (wr z7.1 120 x1 x2).bind fun a8 =>
  (wr z7.2.1 120 x1 1).bind fun a9 =>
  some (a8, a9, (z7.2.2 + 1))
def mX5_isValue  (x0 : Int32) : Option (Int32) :=
  if x0 < 0 then
    some 0
  else
    if 1000 ≤ x0 then
      some 0
    else
      some 1
def mX1_readRow_L21  : Nat → Int32 → RdrT → RowT → TapT → Option (Int32 × RdrT × RowT × TapT)
  | 0, _, _, _, _ => none
  | n + 1, x2, rdr, rrow, tape =>
    if 120 < x2 then
      some (1, rdr, rrow, tape)
    else
      if ¬ tape.2.2.2.2.2.1 = 2 then
        some (1, rdr, rrow, tape)
      else
        (mX5_isValue tape.2.2.2.2.2.2).bind fun q6 =>
        if q6 = 0 then
          (mX1_refuse rdr tape 2).bind fun q8 =>
          some (q8.1, q8.2, rrow, tape)
        else
          if rrow.2.2 < 120 then
            (mX2_open rrow rrow.2.2 tape.2.2.2.2.2.2).bind fun q10 =>
            (mX4_advance tape).bind fun q11 =>
            mX1_readRow_L21  n (x2 + 1) rdr q10 q11
          else
            (mX1_refuse rdr tape 2).bind fun q12 =>
            some (q12.1, q12.2, rrow, tape)
def mX1_readRow (rdr : RdrT) (rrow : RowT) (tape : TapT)  : Option (Int32 × RdrT × RowT × TapT) :=
  (mX4_advance tape).bind fun q1 =>
  if q1.2.2.2.2.2.1 = 2 then
    mX1_readRow_L21  FU 0 rdr rrow q1
  else
    (mX1_refuse rdr q1 1).bind fun q13 =>
    some (q13.1, q13.2, rrow, q1)
def mX4_isWord_L28 (tape : TapT) (x1 : Nat) : Nat → Int32 → Option (Int32)
  | 0, _ => none
  | n + 1, x2 =>
    if (sL x1) ≤ x2 then
      some 1
    else
      (rd tape.1 900 (tape.2.2.2.2.1 + x2)).bind fun v5 =>
      (sC x1 x2).bind fun v6 =>
      if v5 = v6 then
        mX4_isWord_L28 tape x1 n (x2 + 1)
      else
        some 0
def mX4_isWord (tape : TapT) (x1 : Nat) : Option (Int32) :=
  if ¬ tape.2.2.2.2.2.1 = 1 then
    some 0
  else
    if (tape.2.2.2.1 - tape.2.2.2.2.1) = (sL x1) then
      mX4_isWord_L28 tape x1 FU 0
    else
      some 0
def mX1_tiesNamed (tape : TapT)  : Option (Int32) :=
  (mX4_isWord tape 4).bind fun q1 =>
  if q1 = 0 then
    (mX4_isWord tape 5).bind fun q3 =>
    if q3 = 0 then
      (mX4_isWord tape 6).bind fun q5 =>
      if q5 = 0 then
        (mX4_isWord tape 7).bind fun q7 =>
        if q7 = 0 then
          some (-1)
        else
          some 3
      else
        some 2
    else
      some 1
  else
    some 0
def mX1_readTies (rdr : RdrT) (tape : TapT)  : Option (Int32 × RdrT × TapT) :=
  if rdr.2.2.2.2.2.2 = 0 then
    (mX4_advance tape).bind fun q2 =>
    (mX1_tiesNamed q2).bind fun q3 =>
    if ¬ q3 = (-1) then
      (mX4_advance q2).bind fun q5 =>
      some (1, (rdr.1, q3, rdr.2.2.1, rdr.2.2.2.1, rdr.2.2.2.2.1, rdr.2.2.2.2.2.1, 1), q5)
    else
      (mX1_refuse (rdr.1, q3, rdr.2.2.1, rdr.2.2.2.1, rdr.2.2.2.2.1, rdr.2.2.2.2.2.1, 1) q2 1).bind fun q6 =>
      some (q6.1, q6.2, q2)
  else
    (mX1_refuse rdr tape 3).bind fun q7 =>
    some (q7.1, q7.2, tape)
def mX2_has (t : RowT) (x1 : Int32) : Option (Int32) :=
  if x1 < 0 then
    some 0
  else
    if t.2.2 ≤ x1 then
      some 0
    else
      some 1
def mX1_readWeight (rdr : RdrT) (rrow : RowT) (tape : TapT)  : Option (Int32 × RdrT × RowT × TapT) :=
  (mX4_advance tape).bind fun q1 =>
  if ¬ q1.2.2.2.2.2.1 = 2 then
    (mX1_refuse rdr q1 1).bind fun q3 =>
    some (q3.1, q3.2, rrow, q1)
  else
    (mX2_has rrow q1.2.2.2.2.2.2).bind fun q4 =>
    if ¬ q4 = 0 then
      (mX4_advance q1).bind fun q6 =>
      (mX1_isNumber rdr q6 1 9).bind fun q7 =>
      if ¬ q7.1 = 0 then
        (wr rrow.2.1 120 q1.2.2.2.2.2.2 q6.2.2.2.2.2.2).bind fun a9 =>
        (mX4_advance q6).bind fun q10 =>
        some (1, q7.2, (rrow.1, a9, rrow.2.2), q10)
      else
        some (0, q7.2, rrow, q6)
    else
      (mX1_refuse rdr q1 1).bind fun q11 =>
      some (q11.1, q11.2, rrow, q1)
def mX1_readLine (rdr : RdrT) (rrow : RowT) (tape : TapT)  : Option (Int32 × RdrT × RowT × TapT) :=
  (mX4_isWord tape 0).bind fun q1 =>
  if q1 = 0 then
    (mX4_isWord tape 1).bind fun q3 =>
    if q3 = 0 then
      (mX4_isWord tape 2).bind fun q5 =>
      if q5 = 0 then
        (mX4_isWord tape 3).bind fun q7 =>
        if q7 = 0 then
          (mX1_refuse rdr tape 1).bind fun q9 =>
          some (q9.1, q9.2, rrow, tape)
        else
          (mX1_readTies rdr tape).bind fun q10 =>
          some (q10.1, q10.2.1, rrow, q10.2.2)
      else
        (mX1_readBlock rdr tape).bind fun q11 =>
        some (q11.1, q11.2.1, rrow, q11.2.2)
    else
      (mX1_readWeight rdr rrow tape).bind fun q12 =>
      some (q12.1, q12.2.1, q12.2.2.1, q12.2.2.2)
  else
    (mX1_readRow rdr rrow tape).bind fun q13 =>
    some (q13.1, q13.2.1, q13.2.2.1, q13.2.2.2)
def mX4_begin (tape : TapT) (x1 : Int32) : Option (TapT) :=
  (mX4_advance (tape.1, tape.2.1, x1, 0, tape.2.2.2.2.1, tape.2.2.2.2.2.1, tape.2.2.2.2.2.2)).bind fun q1 =>
  some q1
def mX1_read_L51 (x2 : Int32) : Nat → Int32 → RdrT → RowT → TapT → Option (Int32 × RdrT × RowT × TapT)
  | 0, _, _, _, _ => none
  | n + 1, x3, rdr, rrow, tape =>
    if x2 < x3 then
      some (1, rdr, rrow, tape)
    else
      if tape.2.2.2.2.2.1 = 0 then
        some (1, rdr, rrow, tape)
      else
        (mX1_readLine rdr rrow tape).bind fun q5 =>
        if q5.1 = 0 then
          some (0, q5.2.1, q5.2.2.1, q5.2.2.2)
        else
          (mX1_readEnd q5.2.1 q5.2.2.2).bind fun q7 =>
          if ¬ q7.1 = 0 then
            mX1_read_L51 x2 n (x3 + 1) (q7.2.1.1, q7.2.1.2.1, (q7.2.1.2.2.1 + 1), q7.2.1.2.2.2.1, q7.2.1.2.2.2.2.1, q7.2.1.2.2.2.2.2.1, q7.2.1.2.2.2.2.2.2) q5.2.2.1 q7.2.2
          else
            some (0, q7.2.1, q5.2.2.1, q7.2.2)
def mX1_read (rdr : RdrT) (rrow : RowT) (tape : TapT) (x2 : Int32) : Option (Int32 × RdrT × RowT × TapT) :=
  (mX4_begin tape x2).bind fun q1 =>
  mX1_read_L51 x2 FU 0 (8, 0, 0, 0, (-1), 0, 0) (rrow.1, rrow.2.1, 0) q1
def mX2_hasSpan (t : RowT) (x1 : Int32) (x2 : Int32) : Option (Int32) :=
  if x1 < 0 then
    some 0
  else
    if x2 < x1 then
      some 0
    else
      if t.2.2 ≤ x2 then
        some 0
      else
        some 1
def mX2_isLike_L15 (t : RowT) (o : RowT) : Nat → Int32 → Option (Int32)
  | 0, _ => none
  | n + 1, x2 =>
    if t.2.2 ≤ x2 then
      some 1
    else
      (rd t.1 120 x2).bind fun v4 =>
      (rd o.1 120 x2).bind fun v5 =>
      if ¬ v4 = v5 then
        some 0
      else
        (rd t.2.1 120 x2).bind fun v7 =>
        (rd o.2.1 120 x2).bind fun v8 =>
        if v7 = v8 then
          mX2_isLike_L15 t o n (x2 + 1)
        else
          some 0
def mX2_isLike (t : RowT) (o : RowT)  : Option (Int32) :=
  if t.2.2 = o.2.2 then
    mX2_isLike_L15 t o FU 0
  else
    some 0
def mX2_isOtherThan (t : RowT) (o : RowT) (x2 : Int32) : Option (Int32) :=
  if o.2.2 ≤ x2 then
    some 1
  else
    (rd t.1 120 x2).bind fun v2 =>
    (rd o.1 120 x2).bind fun v3 =>
    if v2 = v3 then
      some 0
    else
      some 1
def mX2_close_L12  : Nat → Int32 → RowT → Option (RowT)
  | 0, _, _ => none
  | n + 1, x2, t =>
    if t.2.2 ≤ x2 then
      some t
    else
      (rd t.1 120 (x2 + 1)).bind fun v3 =>
      (wr t.1 120 x2 v3).bind fun a4 =>
      (rd t.2.1 120 (x2 + 1)).bind fun v5 =>
      (wr t.2.1 120 x2 v5).bind fun a6 =>
      mX2_close_L12  n (x2 + 1) (a4, a6, t.2.2)
def mX2_close (t : RowT) (x1 : Int32) : Option (RowT) :=
  (mX2_close_L12  FU x1 (t.1, t.2.1, (t.2.2 - 1))).bind fun z7 =>
  some z7
def mX2_exchange (t : RowT) (x1 : Int32) (x2 : Int32) : Option (RowT) :=
  (rd t.1 120 x1).bind fun v1 =>
  (rd t.2.1 120 x1).bind fun v2 =>
  (rd t.1 120 x2).bind fun v3 =>
  (wr t.1 120 x1 v3).bind fun a4 =>
  (rd t.2.1 120 x2).bind fun v5 =>
  (wr t.2.1 120 x1 v5).bind fun a6 =>
  (wr a4 120 x2 v1).bind fun a7 =>
  (wr a6 120 x2 v2).bind fun a8 =>
  some (a7, a8, t.2.2)
def mX2_turn_L2 (x1 : Int32) (x2 : Int32) : Nat → Int32 → RowT → Option (RowT)
  | 0, _, _ => none
  | n + 1, x3, t =>
    if (x2 - x3) ≤ (x1 + x3) then
      some t
    else
      (mX2_exchange t (x1 + x3) (x2 - x3)).bind fun q3 =>
      mX2_turn_L2 x1 x2 n (x3 + 1) q3
def mX2_turn (t : RowT) (x1 : Int32) (x2 : Int32) : Option (RowT) :=
  (mX2_turn_L2 x1 x2 FU 0 t).bind fun z4 =>
  some z4
def mX2_isWrong  (x1 : Int32) (x2 : Int32) (x3 : Int32) : Option (Int32) :=
  if x3 = 0 then
    if x2 ≤ x1 then
      some 0
    else
      some 1
  else
    if x1 ≤ x2 then
      some 0
    else
      some 1
def mX2_order_L15 (x1 : Int32) (x3 : Int32) : Nat → Int32 → RowT → Option (RowT)
  | 0, _, _ => none
  | n + 1, x5, t =>
    if x5 ≤ x1 then
      some t
    else
      (rd t.1 120 (x5 - 1)).bind fun v5 =>
      (rd t.1 120 x5).bind fun v6 =>
      (mX2_isWrong v5 v6 x3).bind fun q7 =>
      if q7 = 0 then
        some t
      else
        (mX2_exchange t (x5 - 1) x5).bind fun q9 =>
        mX2_order_L15 x1 x3 n (x5 + (-1)) q9
def mX2_order_L5 (x1 : Int32) (x2 : Int32) (x3 : Int32) : Nat → Int32 → RowT → Option (RowT)
  | 0, _, _ => none
  | n + 1, x4, t =>
    if x2 < x4 then
      some t
    else
      (mX2_order_L15 x1 x3 FU x4 t).bind fun z10 =>
      mX2_order_L5 x1 x2 x3 n (x4 + 1) z10
def mX2_order (t : RowT) (x1 : Int32) (x2 : Int32) (x3 : Int32) : Option (RowT) :=
  (mX2_order_L5 x1 x2 x3 FU (x1 + 1) t).bind fun z11 =>
  some z11
def mX2_howOften_L6 (t : RowT) (x1 : Int32) (x3 : Int32) : Nat → Int32 → Int32 → Option (Int32)
  | 0, _, _ => none
  | n + 1, x4, x5 =>
    if x3 < x5 then
      some x4
    else
      (rd t.1 120 x5).bind fun v3 =>
      if ¬ v3 = x1 then
        mX2_howOften_L6 t x1 x3 n x4 (x5 + 1)
      else
        mX2_howOften_L6 t x1 x3 n (x4 + 1) (x5 + 1)
def mX2_howOften (t : RowT) (x1 : Int32) (x2 : Int32) (x3 : Int32) : Option (Int32) :=
  (mX2_howOften_L6 t x1 x3 FU 0 x2).bind fun z5 =>
  some z5
def mX2_weightOf_L6 (t : RowT) (x1 : Int32) (x3 : Int32) : Nat → Int32 → Int32 → Option (Int32)
  | 0, _, _ => none
  | n + 1, x4, x5 =>
    if x3 < x5 then
      some x4
    else
      (rd t.1 120 x5).bind fun v3 =>
      if ¬ v3 = x1 then
        mX2_weightOf_L6 t x1 x3 n x4 (x5 + 1)
      else
        (rd t.2.1 120 x5).bind fun v5 =>
        mX2_weightOf_L6 t x1 x3 n (x4 + v5) (x5 + 1)
def mX2_weightOf (t : RowT) (x1 : Int32) (x2 : Int32) (x3 : Int32) : Option (Int32) :=
  (mX2_weightOf_L6 t x1 x3 FU 0 x2).bind fun z6 =>
  some z6
def mX2_allWeights_L4 (t : RowT) : Nat → Int32 → Int32 → Option (Int32)
  | 0, _, _ => none
  | n + 1, x1, x2 =>
    if t.2.2 ≤ x2 then
      some x1
    else
      (rd t.2.1 120 x2).bind fun v3 =>
      mX2_allWeights_L4 t n (x1 + v3) (x2 + 1)
def mX2_allWeights (t : RowT)  : Option (Int32) :=
  (mX2_allWeights_L4 t FU 0 0).bind fun z4 =>
  some z4
def mX2_nth_L6 (t : RowT) (x1 : Int32) : Nat → Int32 → Int32 → Option (Int32)
  | 0, _, _ => none
  | n + 1, x4, x5 =>
    if t.2.2 ≤ x5 then
      some (-2)
    else
      (rd t.1 120 x5).bind fun v3 =>
      if ¬ v3 = x1 then
        mX2_nth_L6 t x1 n x4 (x5 + 1)
      else
        if ¬ (x4 + (-1)) = 0 then
          mX2_nth_L6 t x1 n (x4 + (-1)) (x5 + 1)
        else
          some x5
def mX2_nth (t : RowT) (x1 : Int32) (x2 : Int32) (x3 : Int32) : Option (Int32) :=
  mX2_nth_L6 t x1 FU x3 x2
def mX2_from (t : RowT) (x1 : Int32) (x2 : Int32) : Option (Int32) :=
  (mX2_nth t x1 x2 1).bind fun q1 =>
  some q1
def mX2_upTo_L2 (t : RowT) (x1 : Int32) : Nat → Int32 → Option (Int32)
  | 0, _ => none
  | n + 1, x3 =>
    if x3 < 0 then
      some (-2)
    else
      (rd t.1 120 x3).bind fun v3 =>
      if ¬ v3 = x1 then
        mX2_upTo_L2 t x1 n (x3 + (-1))
      else
        some x3
def mX2_upTo (t : RowT) (x1 : Int32) (x2 : Int32) : Option (Int32) :=
  mX2_upTo_L2 t x1 FU x2
def mX3_begin_L2  : Nat → Int32 → TalT → Option (TalT)
  | 0, _, _ => none
  | n + 1, x2, t =>
    if t.2.2.2.2.1 ≤ x2 then
      some t
    else
      (rd t.2.2.2.1 120 x2).bind fun v3 =>
      (wr t.1 1000 v3 0).bind fun a4 =>
      mX3_begin_L2  n (x2 + 1) (a4, t.2.1, t.2.2.1, t.2.2.2.1, t.2.2.2.2.1, t.2.2.2.2.2.1, t.2.2.2.2.2.2.1, t.2.2.2.2.2.2.2)
def mX3_begin (t : TalT) (x1 : Int32) : Option (TalT) :=
  (mX3_begin_L2  FU 0 t).bind fun z5 =>
  some (z5.1, z5.2.1, z5.2.2.1, z5.2.2.2.1, 0, 0, (-1), x1)
def mX3_isAhead (t : TalT) (x1 : Int32) (x2 : Int32) : Option (Int32) :=
  (rd t.1 1000 x1).bind fun v1 =>
  (rd t.1 1000 x2).bind fun v2 =>
  if v1 = v2 then
    if t.2.2.2.2.2.2.2 = 0 then
      (rd t.2.1 1000 x1).bind fun v4 =>
      (rd t.2.1 1000 x2).bind fun v5 =>
      if v5 ≤ v4 then
        some 0
      else
        some 1
    else if t.2.2.2.2.2.2.2 = 1 then
      (rd t.2.2.1 1000 x1).bind fun v8 =>
      (rd t.2.2.1 1000 x2).bind fun v9 =>
      if v8 ≤ v9 then
        some 0
      else
        some 1
    else if t.2.2.2.2.2.2.2 = 2 then
      if x2 ≤ x1 then
        some 0
      else
        some 1
    else 
      if x1 ≤ x2 then
        some 0
      else
        some 1
  else
    (rd t.1 1000 x1).bind fun v15 =>
    (rd t.1 1000 x2).bind fun v16 =>
    if v15 ≤ v16 then
      some 0
    else
      some 1
def mX3_push (t : TalT) (x1 : Int32) : Option (TalT) :=
  (rd t.1 1000 x1).bind fun v1 =>
  (if ¬ v1 = 0 then
    some t
  else
    (wr t.2.1 1000 x1 t.2.2.2.2.2.1).bind fun a11 =>
    (wr t.2.2.2.1 120 t.2.2.2.2.1 x1).bind fun a12 =>
    some (t.1, a11, t.2.2.1, a12, (t.2.2.2.2.1 + 1), t.2.2.2.2.2.1, t.2.2.2.2.2.2.1, t.2.2.2.2.2.2.2)).bind fun (z2 : TalT) =>
  (rd z2.1 1000 x1).bind fun v4 =>
  (wr z2.1 1000 x1 (v4 + 1)).bind fun a5 =>
  (wr z2.2.2.1 1000 x1 z2.2.2.2.2.2.1).bind fun a6 =>
  if z2.2.2.2.2.2.2.1 = (-1) then
    some (a5, z2.2.1, a6, z2.2.2.2.1, z2.2.2.2.2.1, (z2.2.2.2.2.2.1 + 1), x1, z2.2.2.2.2.2.2.2)
  else
    (mX3_isAhead (a5, z2.2.1, a6, z2.2.2.2.1, z2.2.2.2.2.1, (z2.2.2.2.2.2.1 + 1), z2.2.2.2.2.2.2.1, z2.2.2.2.2.2.2.2) x1 z2.2.2.2.2.2.2.1).bind fun q8 =>
    if q8 = 0 then
      some (a5, z2.2.1, a6, z2.2.2.2.1, z2.2.2.2.2.1, (z2.2.2.2.2.2.1 + 1), z2.2.2.2.2.2.2.1, z2.2.2.2.2.2.2.2)
    else
      some (a5, z2.2.1, a6, z2.2.2.2.1, z2.2.2.2.2.1, (z2.2.2.2.2.2.1 + 1), x1, z2.2.2.2.2.2.2.2)
def mX3_order_L19 (x2 : Int32) : Nat → Int32 → TalT → Option (Int32 × TalT)
  | 0, _, _ => none
  | n + 1, x3, t =>
    if x3 ≤ 0 then
      some (x3, t)
    else
      (rd t.2.2.2.1 120 (x3 - 1)).bind fun v6 =>
      (mX3_isAhead t x2 v6).bind fun q7 =>
      if q7 = 0 then
        some (x3, t)
      else
        (rd t.2.2.2.1 120 (x3 - 1)).bind fun v9 =>
        (wr t.2.2.2.1 120 x3 v9).bind fun a10 =>
        mX3_order_L19 x2 n (x3 + (-1)) (t.1, t.2.1, t.2.2.1, a10, t.2.2.2.2.1, t.2.2.2.2.2.1, t.2.2.2.2.2.2.1, t.2.2.2.2.2.2.2)
def mX3_order_L2  : Nat → Int32 → TalT → Option (TalT)
  | 0, _, _ => none
  | n + 1, x1, t =>
    if t.2.2.2.2.1 ≤ x1 then
      some t
    else
      (rd t.2.2.2.1 120 x1).bind fun v3 =>
      (mX3_order_L19 v3 FU x1 t).bind fun z11 =>
      (wr z11.2.2.2.2.1 120 z11.1 v3).bind fun a12 =>
      mX3_order_L2  n (x1 + 1) (z11.2.1, z11.2.2.1, z11.2.2.2.1, a12, z11.2.2.2.2.2.1, z11.2.2.2.2.2.2.1, z11.2.2.2.2.2.2.2.1, z11.2.2.2.2.2.2.2.2)
def mX3_order (t : TalT)  : Option (TalT) :=
  (mX3_order_L2  FU 1 t).bind fun z13 =>
  some z13
def mX3_most (t : TalT)  : Option (Int32) :=
  if ¬ t.2.2.2.2.2.2.1 = (-1) then
    (rd t.1 1000 t.2.2.2.2.2.2.1).bind fun v2 =>
    some v2
  else
    some 0
def mX3_hasMajority (t : TalT)  : Option (Int32) :=
  (mX3_most t).bind fun q1 =>
  if (2 * q1) ≤ t.2.2.2.2.2.1 then
    some 0
  else
    some 1
def mX3_tooMany_L5 (t : TalT) (x1 : Int32) (x2 : Int32) : Nat → Int32 → Int32 → Option (Int32)
  | 0, _, _ => none
  | n + 1, x3, x4 =>
    if t.2.2.2.2.1 ≤ x4 then
      some x3
    else
      (rd t.2.2.2.1 120 x4).bind fun v3 =>
      if v3 = x1 then
        mX3_tooMany_L5 t x1 x2 n x3 (x4 + 1)
      else
        (rd t.2.2.2.1 120 x4).bind fun v5 =>
        (rd t.1 1000 v5).bind fun v6 =>
        mX3_tooMany_L5 t x1 x2 n (x3 + (if 0 < (v6 - x2) then (v6 - x2) else 0)) (x4 + 1)
def mX3_tooMany (t : TalT) (x1 : Int32) (x2 : Int32) : Option (Int32) :=
  (mX3_tooMany_L5 t x1 x2 FU 0 0).bind fun z7 =>
  some z7
def mX3_told (t : TalT) (x1 : Int32) (x2 : Int32) (x3 : Int32) : Option (Int32) :=
  if x2 = 0 then
    some x1
  else if x2 = 1 then
    (rd t.1 1000 x1).bind fun v2 =>
    some v2
  else if x2 = 2 then
    (rd t.2.1 1000 x1).bind fun v4 =>
    some (x3 + v4)
  else 
    (rd t.2.2.1 1000 x1).bind fun v6 =>
    some (x3 + v6)
def mX4_put_L3 (x1 : Int32) : Nat → Int32 → TapT → Option (TapT)
  | 0, _, _ => none
  | n + 1, x2, tape =>
    if x2 < 0 then
      some tape
    else
      (wr tape.1 900 tape.2.1 (vp_nar .char ((Int32.toUInt32 ((Int32.toUInt32 x1 >>> (Int32.toUInt32 x2 &&& Int32.toUInt32 31)).toInt32 &&& 255) % 65536).toInt32))).bind fun a3 =>
      mX4_put_L3 x1 n (x2 + (-8)) (a3, (tape.2.1 + 1), tape.2.2.1, tape.2.2.2.1, tape.2.2.2.2.1, tape.2.2.2.2.2.1, tape.2.2.2.2.2.2)
def mX4_put (tape : TapT) (x1 : Int32) : Option (TapT) :=
  (mX4_put_L3 x1 FU 24 tape).bind fun z4 =>
  some z4
def mX5_feed (tape : TapT) (x1 : Int32) (x2 : Int32) (x3 : Int32) (x4 : Int32) (x5 : Int32) : Option (Int32 × TapT) :=
  if (tape.2.1 + 20) ≤ 900 then
    (mX4_put tape x1).bind fun q2 =>
    (mX4_put q2 x2).bind fun q3 =>
    (mX4_put q3 x3).bind fun q4 =>
    (mX4_put q4 x4).bind fun q5 =>
    (mX4_put q5 x5).bind fun q6 =>
    some (q6.2.1, q6)
  else
    some ((-1), tape)
def mX5_text (block : Int32) (ties : Int32) (lines : Int32) (pmn : Int32) (tape : TapT) (rdr : RdrT) (rrow : RowT) (row : RowT) (past : PasT) (x1 : Int32) : Option (Int32 × Int32 × Int32 × Int32 × Int32 × TapT × RdrT × RowT × RowT × PasT) :=
  if x1 < 0 then
    some ((-2), block, ties, lines, pmn, tape, rdr, rrow, row, past)
  else
    if x1 ≤ tape.2.1 then
      (mX1_read rdr rrow tape x1).bind fun q3 =>
      if ¬ q3.1 = 0 then
        (mX2_take row q3.2.2.1).bind fun q5 =>
        some (q3.2.1.2.2.1, q3.2.1.1, q3.2.1.2.1, q3.2.1.2.2.1, (-2), (q3.2.2.2.1, 0, q3.2.2.2.2.2.1, q3.2.2.2.2.2.2.1, q3.2.2.2.2.2.2.2.1, q3.2.2.2.2.2.2.2.2.1, q3.2.2.2.2.2.2.2.2.2), q3.2.1, q3.2.2.1, q5, (past.1, 0, past.2.2))
      else
        some ((-1), block, ties, lines, pmn, (q3.2.2.2.1, 0, q3.2.2.2.2.2.1, q3.2.2.2.2.2.2.1, q3.2.2.2.2.2.2.2.1, q3.2.2.2.2.2.2.2.2.1, q3.2.2.2.2.2.2.2.2.2), q3.2.1, q3.2.2.1, row, past)
    else
      some ((-2), block, ties, lines, pmn, tape, rdr, rrow, row, past)
def mX5_fault (rdr : RdrT) (x1 : Int32) : Option (Int32) :=
  if ¬ x1 = 0 then
    if ¬ x1 = 1 then
      some (-1)
    else
      some rdr.2.2.2.2.1
  else
    some rdr.2.2.2.1
def mX5_blocksOf (block : Int32) (o : RowT)  : Option (Int32) :=
  (idv ((o.2.2 + block) - 1) block).bind fun v1 =>
  some v1
def mX5_blockEnd (block : Int32) (o : RowT) (x2 : Int32) : Option (Int32) :=
  some (if ((x2 + 1) * block) < o.2.2 then ((x2 + 1) * block) else o.2.2)
def mX5_isTouched_L16 (block : Int32) (o : RowT) (b : RowT) (x3 : Int32) (x4 : Int32) : Nat → Int32 → Option (Int32)
  | 0, _ => none
  | n + 1, x5 =>
    if x4 ≤ x5 then
      (mX5_blockEnd block o x3).bind fun q4 =>
      if q4 ≤ x4 then
        some 0
      else
        some 1
    else
      (mX2_isOtherThan b o x5).bind fun q6 =>
      if q6 = 0 then
        mX5_isTouched_L16 block o b x3 x4 n (x5 + 1)
      else
        some 1
def mX5_isTouched (block : Int32) (o : RowT) (b : RowT) (x3 : Int32) : Option (Int32) :=
  (mX5_blockEnd block b x3).bind fun q1 =>
  mX5_isTouched_L16 block o b x3 q1 FU (x3 * block)
def mX5_pairsTouched_L15 (block : Int32) (o : RowT) (b : RowT) (x3 : Int32) : Nat → Int32 → Int32 → Int32 → Option (Int32)
  | 0, _, _, _ => none
  | n + 1, x4, x5, x6 =>
    if x3 ≤ x6 then
      some x4
    else
      (mX5_isTouched block o b x6).bind fun q4 =>
      if q4 = 0 then
        mX5_pairsTouched_L15 block o b x3 n (x4 + (x5 + 1)) (x5 + 1) (x6 + 1)
      else
        mX5_pairsTouched_L15 block o b x3 n (x4 + 0) 0 (x6 + 1)
def mX5_pairsTouched (block : Int32) (o : RowT) (b : RowT)  : Option (Int32) :=
  (mX5_blocksOf block b).bind fun q1 =>
  (mX5_pairsTouched_L15 block o b q1 FU 0 0 0).bind fun z6 =>
  (idv (q1 * (q1 + 1)) 2).bind fun v7 =>
  some (v7 - z6)
def mX5_settle_L20 (row : RowT) (next : RowT) : Nat → Int32 → Int32 → Option (Int32)
  | 0, _, _ => none
  | n + 1, x1, x2 =>
    if next.2.2 ≤ x2 then
      some x1
    else
      (mX2_isOtherThan next row x2).bind fun q5 =>
      if q5 = 0 then
        mX5_settle_L20 row next n x1 (x2 + 1)
      else
        mX5_settle_L20 row next n (x1 + 1) (x2 + 1)
def mX5_settle (block : Int32) (pmn : Int32) (row : RowT) (next : RowT) (past : PasT)  : Option (Int32 × Int32 × RowT × PasT) :=
  (mX2_isLike next row).bind fun q1 =>
  if q1 = 0 then
    (mX5_settle_L20 row next FU 0 0).bind fun z7 =>
    (mX0_keep past row).bind fun q8 =>
    (mX5_pairsTouched block row next).bind fun q9 =>
    (mX2_take row next).bind fun q10 =>
    some (z7, q9, q10, q8)
  else
    some (0, pmn, row, past)
def mX5_set (block : Int32) (pmn : Int32) (row : RowT) (next : RowT) (past : PasT) (x1 : Int32) (x2 : Int32) : Option (Int32 × Int32 × RowT × RowT × PasT) :=
  (mX2_has row x1).bind fun q1 =>
  if q1 = 0 then
    some ((-1), pmn, row, next, past)
  else
    (mX5_isValue x2).bind fun q3 =>
    if ¬ q3 = 0 then
      (rd row.1 120 x1).bind fun v5 =>
      (mX2_take next row).bind fun q6 =>
      (wr q6.1 120 x1 x2).bind fun a7 =>
      (mX5_settle block pmn row (a7, q6.2.1, q6.2.2) past).bind fun q8 =>
      some (v5, q8.2.1, q8.2.2.1, (a7, q6.2.1, q6.2.2), q8.2.2.2)
    else
      some ((-1), pmn, row, next, past)
def mX5_weigh (block : Int32) (pmn : Int32) (row : RowT) (next : RowT) (past : PasT) (x1 : Int32) (x2 : Int32) : Option (Int32 × Int32 × RowT × RowT × PasT) :=
  (mX2_has row x1).bind fun q1 =>
  if q1 = 0 then
    some ((-1), pmn, row, next, past)
  else
    if x2 < 1 then
      some ((-1), pmn, row, next, past)
    else
      if x2 ≤ 9 then
        (rd row.2.1 120 x1).bind fun v5 =>
        (mX2_take next row).bind fun q6 =>
        (wr q6.2.1 120 x1 x2).bind fun a7 =>
        (mX5_settle block pmn row (q6.1, a7, q6.2.2) past).bind fun q8 =>
        some (v5, q8.2.1, q8.2.2.1, (q6.1, a7, q6.2.2), q8.2.2.2)
      else
        some ((-1), pmn, row, next, past)
def mX5_insert (block : Int32) (pmn : Int32) (row : RowT) (next : RowT) (past : PasT) (x1 : Int32) (x2 : Int32) : Option (Int32 × Int32 × RowT × RowT × PasT) :=
  if x1 < 0 then
    some ((-1), pmn, row, next, past)
  else
    if row.2.2 < x1 then
      some ((-1), pmn, row, next, past)
    else
      (mX5_isValue x2).bind fun q3 =>
      if q3 = 0 then
        some ((-1), pmn, row, next, past)
      else
        if row.2.2 < 120 then
          (mX2_take next row).bind fun q6 =>
          (mX2_open q6 x1 x2).bind fun q7 =>
          (mX5_settle block pmn row q7 past).bind fun q8 =>
          some (q8.2.2.1.2.2, q8.2.1, q8.2.2.1, q7, q8.2.2.2)
        else
          some ((-1), pmn, row, next, past)
def mX5_remove (block : Int32) (pmn : Int32) (row : RowT) (next : RowT) (past : PasT) (x1 : Int32) : Option (Int32 × Int32 × RowT × RowT × PasT) :=
  (mX2_has row x1).bind fun q1 =>
  if ¬ q1 = 0 then
    (rd row.1 120 x1).bind fun v3 =>
    (mX2_take next row).bind fun q4 =>
    (mX2_close q4 x1).bind fun q5 =>
    (mX5_settle block pmn row q5 past).bind fun q6 =>
    some (v3, q6.2.1, q6.2.2.1, q5, q6.2.2.2)
  else
    some ((-1), pmn, row, next, past)
def mX5_fill_L35 (x2 : Int32) (x3 : Int32) : Nat → Int32 → RowT → Option (RowT)
  | 0, _, _ => none
  | n + 1, x4, next =>
    if x2 < x4 then
      some next
    else
      (wr next.1 120 x4 x3).bind fun a8 =>
      mX5_fill_L35 x2 x3 n (x4 + 1) (a8, next.2.1, next.2.2)
def mX5_fill (block : Int32) (pmn : Int32) (row : RowT) (next : RowT) (past : PasT) (x1 : Int32) (x2 : Int32) (x3 : Int32) : Option (Int32 × Int32 × RowT × RowT × PasT) :=
  (mX2_hasSpan row x1 x2).bind fun q1 =>
  if q1 = 0 then
    some ((-1), pmn, row, next, past)
  else
    (mX5_isValue x3).bind fun q3 =>
    if ¬ q3 = 0 then
      (mX2_take next row).bind fun q5 =>
      (mX5_fill_L35 x2 x3 FU x1 q5).bind fun z9 =>
      (mX5_settle block pmn row z9 past).bind fun q10 =>
      some (q10.1, q10.2.1, q10.2.2.1, z9, q10.2.2.2)
    else
      some ((-1), pmn, row, next, past)
def mX5_swap (block : Int32) (pmn : Int32) (row : RowT) (next : RowT) (past : PasT) (x1 : Int32) (x2 : Int32) : Option (Int32 × Int32 × RowT × RowT × PasT) :=
  (mX2_has row x1).bind fun q1 =>
  if q1 = 0 then
    some (0, pmn, row, next, past)
  else
    (mX2_has row x2).bind fun q3 =>
    if q3 = 0 then
      some (0, pmn, row, next, past)
    else
      if ¬ x1 = x2 then
        (mX2_take next row).bind fun q6 =>
        (mX2_exchange q6 x1 x2).bind fun q7 =>
        (mX5_settle block pmn row q7 past).bind fun q8 =>
        some (1, q8.2.1, q8.2.2.1, q7, q8.2.2.2)
      else
        some (0, pmn, row, next, past)
def mX5_flip (block : Int32) (pmn : Int32) (row : RowT) (next : RowT) (past : PasT) (x1 : Int32) (x2 : Int32) : Option (Int32 × Int32 × RowT × RowT × PasT) :=
  (mX2_hasSpan row x1 x2).bind fun q1 =>
  if ¬ q1 = 0 then
    (mX2_take next row).bind fun q3 =>
    (mX2_turn q3 x1 x2).bind fun q4 =>
    (mX5_settle block pmn row q4 past).bind fun q5 =>
    some (q5.1, q5.2.1, q5.2.2.1, q4, q5.2.2.2)
  else
    some ((-1), pmn, row, next, past)
def mX5_shift (block : Int32) (pmn : Int32) (row : RowT) (next : RowT) (past : PasT) (x1 : Int32) (x2 : Int32) (x3 : Int32) : Option (Int32 × Int32 × RowT × RowT × PasT) :=
  (mX2_hasSpan row x1 x2).bind fun q1 =>
  if q1 = 0 then
    some ((-1), pmn, row, next, past)
  else
    if x3 < 0 then
      some ((-1), pmn, row, next, past)
    else
      if x3 ≤ ((x2 - x1) + 1) then
        (mX2_take next row).bind fun q5 =>
        (mX2_turn q5 x1 x2).bind fun q6 =>
        (mX2_turn q6 x1 ((x1 + x3) - 1)).bind fun q7 =>
        (mX2_turn q7 (x1 + x3) x2).bind fun q8 =>
        (mX5_settle block pmn row q8 past).bind fun q9 =>
        some (q9.1, q9.2.1, q9.2.2.1, q8, q9.2.2.2)
      else
        some ((-1), pmn, row, next, past)
def mX5_replace_L29 (x1 : Int32) (x2 : Int32) : Nat → Int32 → RowT → Option (RowT)
  | 0, _, _ => none
  | n + 1, x3, next =>
    if next.2.2 ≤ x3 then
      some next
    else
      (rd next.1 120 x3).bind fun v8 =>
      if ¬ v8 = x1 then
        mX5_replace_L29 x1 x2 n (x3 + 1) next
      else
        (wr next.1 120 x3 x2).bind fun a10 =>
        mX5_replace_L29 x1 x2 n (x3 + 1) (a10, next.2.1, next.2.2)
def mX5_replace (block : Int32) (pmn : Int32) (row : RowT) (next : RowT) (past : PasT) (x1 : Int32) (x2 : Int32) : Option (Int32 × Int32 × RowT × RowT × PasT) :=
  (mX5_isValue x1).bind fun q1 =>
  if q1 = 0 then
    some ((-1), pmn, row, next, past)
  else
    (mX5_isValue x2).bind fun q3 =>
    if ¬ q3 = 0 then
      (mX2_take next row).bind fun q5 =>
      (mX5_replace_L29 x1 x2 FU 0 q5).bind fun z11 =>
      (mX5_settle block pmn row z11 past).bind fun q12 =>
      some (q12.1, q12.2.1, q12.2.2.1, z11, q12.2.2.2)
    else
      some ((-1), pmn, row, next, past)
def mX5_sort (block : Int32) (pmn : Int32) (row : RowT) (next : RowT) (past : PasT) (x1 : Int32) (x2 : Int32) (x3 : Int32) : Option (Int32 × Int32 × RowT × RowT × PasT) :=
  (mX2_hasSpan row x1 x2).bind fun q1 =>
  if ¬ q1 = 0 then
    (mX2_take next row).bind fun q3 =>
    (mX2_order q3 x1 x2 x3).bind fun q4 =>
    (mX5_settle block pmn row q4 past).bind fun q5 =>
    some (q5.1, q5.2.1, q5.2.2.1, q4, q5.2.2.2)
  else
    some ((-1), pmn, row, next, past)
def mX5_refreshed (pmn : Int32)  : Option (Int32) :=
  some pmn
def mX5_undo (block : Int32) (pmn : Int32) (row : RowT) (past : PasT)  : Option (Int32 × Int32 × RowT × PasT) :=
  if ¬ past.2.1 = 0 then
    (mX0_ago past 1).bind fun q2 =>
    (mX5_pairsTouched block row (past.1 q2)).bind fun q3 =>
    (mX2_take row (past.1 q2)).bind fun q4 =>
    (mX0_dropLatest past).bind fun q5 =>
    some (q5.2.1, q3, q4, q5)
  else
    some ((-1), pmn, row, past)
def mX5_was (row : RowT) (past : PasT) (x1 : Int32) (x2 : Int32) : Option (Int32) :=
  if x1 < 0 then
    some (-1)
  else
    if past.2.1 < x1 then
      some (-1)
    else
      if 0 ≤ x2 then
        if ¬ x1 = 0 then
          (mX0_ago past x1).bind fun q5 =>
          (mX2_has (past.1 q5) x2).bind fun q6 =>
          if q6 = 0 then
            some (-2)
          else
            (rd ((past.1 q5).1) 120 x2).bind fun v8 =>
            some v8
        else
          (mX2_has row x2).bind fun q9 =>
          if q9 = 0 then
            some (-2)
          else
            (rd row.1 120 x2).bind fun v11 =>
            some v11
      else
        some (-1)
def mX5_since_L15 (row : RowT) (past : PasT) (x1 : Int32) : Nat → Int32 → Option (Int32)
  | 0, _ => none
  | n + 1, x2 =>
    if past.2.1 ≤ x2 then
      some (-2)
    else
      (mX0_ago past (x2 + 1)).bind fun q5 =>
      (mX2_has (past.1 q5) x1).bind fun q6 =>
      if q6 = 0 then
        some x2
      else
        (rd ((past.1 q5).1) 120 x1).bind fun v8 =>
        (rd row.1 120 x1).bind fun v9 =>
        if v8 = v9 then
          mX5_since_L15 row past x1 n (x2 + 1)
        else
          some x2
def mX5_since (row : RowT) (past : PasT) (x1 : Int32) : Option (Int32) :=
  (mX2_has row x1).bind fun q1 =>
  if ¬ q1 = 0 then
    mX5_since_L15 row past x1 FU 0
  else
    some (-1)
def mX5_isBelow  (x0 : Int32) (x1 : Int32) : Option (Int32) :=
  if x0 < 0 then
    some 0
  else
    if x1 ≤ x0 then
      some 0
    else
      some 1
def mX5_tallySpan_L13 (row : RowT) (x2 : Int32) : Nat → Int32 → TalT → Option (TalT)
  | 0, _, _ => none
  | n + 1, x3, tally =>
    if x2 < x3 then
      some tally
    else
      (rd row.1 120 x3).bind fun v4 =>
      (mX3_push tally v4).bind fun q5 =>
      mX5_tallySpan_L13 row x2 n (x3 + 1) q5
def mX5_tallySpan (ties : Int32) (row : RowT) (tally : TalT) (x1 : Int32) (x2 : Int32) : Option (TalT) :=
  (mX3_begin tally ties).bind fun q1 =>
  (mX5_tallySpan_L13 row x2 FU x1 q1).bind fun z6 =>
  some z6
def mX5_mode (ties : Int32) (row : RowT) (tally : TalT) (x1 : Int32) (x2 : Int32) (x3 : Int32) : Option (Int32 × TalT) :=
  (mX2_hasSpan row x1 x2).bind fun q1 =>
  if q1 = 0 then
    some ((-1), tally)
  else
    (mX5_isBelow x3 4).bind fun q3 =>
    if ¬ q3 = 0 then
      (mX5_tallySpan ties row tally x1 x2).bind fun q5 =>
      (mX3_told q5 q5.2.2.2.2.2.2.1 x3 x1).bind fun q6 =>
      some (q6, q5)
    else
      some ((-1), tally)
def mX5_ranked (ties : Int32) (row : RowT) (tally : TalT) (x1 : Int32) (x2 : Int32) (x3 : Int32) (x4 : Int32) : Option (Int32 × TalT) :=
  (mX2_hasSpan row x1 x2).bind fun q1 =>
  if q1 = 0 then
    some ((-1), tally)
  else
    if x3 < 0 then
      some ((-1), tally)
    else
      (mX5_isBelow x4 4).bind fun q4 =>
      if ¬ q4 = 0 then
        (mX5_tallySpan ties row tally x1 x2).bind fun q6 =>
        if x3 < q6.2.2.2.2.1 then
          (mX3_order q6).bind fun q8 =>
          (rd q8.2.2.2.1 120 x3).bind fun v9 =>
          (mX3_told q8 v9 x4 x1).bind fun q10 =>
          some (q10, q8)
        else
          some ((-2), q6)
      else
        some ((-1), tally)
def mX5_rank_L48 (tally : TalT) (x3 : Int32) : Nat → Int32 → Int32 → Option (Int32)
  | 0, _, _ => none
  | n + 1, x4, x5 =>
    if tally.2.2.2.2.1 ≤ x5 then
      some x4
    else
      (rd tally.2.2.2.1 120 x5).bind fun v10 =>
      (mX3_isAhead tally v10 x3).bind fun q11 =>
      if q11 = 0 then
        mX5_rank_L48 tally x3 n x4 (x5 + 1)
      else
        mX5_rank_L48 tally x3 n (x4 + 1) (x5 + 1)
def mX5_rank (ties : Int32) (row : RowT) (tally : TalT) (x1 : Int32) (x2 : Int32) (x3 : Int32) : Option (Int32 × TalT) :=
  (mX2_hasSpan row x1 x2).bind fun q1 =>
  if q1 = 0 then
    some ((-1), tally)
  else
    (mX5_isValue x3).bind fun q3 =>
    if ¬ q3 = 0 then
      (mX5_tallySpan ties row tally x1 x2).bind fun q5 =>
      (rd q5.1 1000 x3).bind fun v6 =>
      if ¬ v6 = 0 then
        (mX5_rank_L48 q5 x3 FU 0 0).bind fun z13 =>
        some (z13, q5)
      else
        some ((-2), q5)
    else
      some ((-1), tally)
def mX5_often (row : RowT) (x1 : Int32) (x2 : Int32) (x3 : Int32) : Option (Int32) :=
  (mX2_hasSpan row x1 x2).bind fun q1 =>
  if q1 = 0 then
    some (-1)
  else
    (mX5_isValue x3).bind fun q3 =>
    if ¬ q3 = 0 then
      (mX2_howOften row x3 x1 x2).bind fun q5 =>
      some q5
    else
      some (-1)
def mX5_unlike (ties : Int32) (row : RowT) (tally : TalT) (x1 : Int32) (x2 : Int32) : Option (Int32 × TalT) :=
  (mX2_hasSpan row x1 x2).bind fun q1 =>
  if ¬ q1 = 0 then
    (mX5_tallySpan ties row tally x1 x2).bind fun q3 =>
    some (q3.2.2.2.2.1, q3)
  else
    some ((-1), tally)
def mX5_times_L31 (tally : TalT) (x3 : Int32) : Nat → Int32 → Int32 → Option (Int32)
  | 0, _, _ => none
  | n + 1, x4, x5 =>
    if tally.2.2.2.2.1 ≤ x5 then
      some x4
    else
      (rd tally.2.2.2.1 120 x5).bind fun v7 =>
      (rd tally.1 1000 v7).bind fun v8 =>
      if ¬ v8 = x3 then
        mX5_times_L31 tally x3 n x4 (x5 + 1)
      else
        mX5_times_L31 tally x3 n (x4 + 1) (x5 + 1)
def mX5_times (ties : Int32) (row : RowT) (tally : TalT) (x1 : Int32) (x2 : Int32) (x3 : Int32) : Option (Int32 × TalT) :=
  (mX2_hasSpan row x1 x2).bind fun q1 =>
  if q1 = 0 then
    some ((-1), tally)
  else
    if 1 ≤ x3 then
      (mX5_tallySpan ties row tally x1 x2).bind fun q4 =>
      (mX5_times_L31 q4 x3 FU 0 0).bind fun z10 =>
      some (z10, q4)
    else
      some ((-1), tally)
def mX5_majority (ties : Int32) (row : RowT) (tally : TalT) (x1 : Int32) (x2 : Int32) : Option (Int32 × TalT) :=
  (mX2_hasSpan row x1 x2).bind fun q1 =>
  if ¬ q1 = 0 then
    (mX5_tallySpan ties row tally x1 x2).bind fun q3 =>
    (mX3_hasMajority q3).bind fun q4 =>
    if q4 = 0 then
      some ((-2), q3)
    else
      some (q3.2.2.2.2.2.2.1, q3)
  else
    some ((-1), tally)
def mX5_heaviest_L43 (row : RowT) (tally : TalT) (x1 : Int32) (x2 : Int32) : Nat → Int32 → Int32 → Int32 → Option (Int32 × Int32)
  | 0, _, _, _ => none
  | n + 1, x4, x5, x6 =>
    if tally.2.2.2.2.1 ≤ x6 then
      some (x4, x5)
    else
      (rd tally.2.2.2.1 120 x6).bind fun v8 =>
      (mX2_weightOf row v8 x1 x2).bind fun q9 =>
      if x5 < q9 then
        mX5_heaviest_L43 row tally x1 x2 n v8 q9 (x6 + 1)
      else
        if ¬ q9 = x5 then
          mX5_heaviest_L43 row tally x1 x2 n x4 x5 (x6 + 1)
        else
          (mX3_isAhead tally v8 x4).bind fun q12 =>
          if q12 = 0 then
            mX5_heaviest_L43 row tally x1 x2 n x4 x5 (x6 + 1)
          else
            mX5_heaviest_L43 row tally x1 x2 n v8 q9 (x6 + 1)
def mX5_heaviest (ties : Int32) (row : RowT) (tally : TalT) (x1 : Int32) (x2 : Int32) (x3 : Int32) : Option (Int32 × TalT) :=
  (mX2_hasSpan row x1 x2).bind fun q1 =>
  if q1 = 0 then
    some ((-1), tally)
  else
    (mX5_isBelow x3 2).bind fun q3 =>
    if ¬ q3 = 0 then
      (mX5_tallySpan ties row tally x1 x2).bind fun q5 =>
      (mX5_heaviest_L43 row q5 x1 x2 FU q5.2.2.2.2.2.2.1 0 0).bind fun z14 =>
      if ¬ x3 = 0 then
        some (z14.2, q5)
      else
        some (z14.1, q5)
    else
      some ((-1), tally)
def mX5_lead_L25 (tally : TalT) : Nat → Int32 → Int32 → Option (Int32)
  | 0, _, _ => none
  | n + 1, x3, x4 =>
    if tally.2.2.2.2.1 ≤ x4 then
      some x3
    else
      (rd tally.2.2.2.1 120 x4).bind fun v6 =>
      if v6 = tally.2.2.2.2.2.2.1 then
        mX5_lead_L25 tally n x3 (x4 + 1)
      else
        (rd tally.1 1000 v6).bind fun v8 =>
        mX5_lead_L25 tally n (if x3 < v8 then v8 else x3) (x4 + 1)
def mX5_lead (ties : Int32) (row : RowT) (tally : TalT) (x1 : Int32) (x2 : Int32) : Option (Int32 × TalT) :=
  (mX2_hasSpan row x1 x2).bind fun q1 =>
  if ¬ q1 = 0 then
    (mX5_tallySpan ties row tally x1 x2).bind fun q3 =>
    (mX5_lead_L25 q3 FU 0 0).bind fun z9 =>
    (mX3_most q3).bind fun q10 =>
    some ((q10 - z9), q3)
  else
    some ((-1), tally)
def mX5_rarest_L40 (tally : TalT) : Nat → Int32 → Int32 → Option (Int32)
  | 0, _, _ => none
  | n + 1, x4, x5 =>
    if tally.2.2.2.2.1 ≤ x5 then
      some x4
    else
      (rd tally.2.2.2.1 120 x5).bind fun v8 =>
      (mX3_isAhead tally x4 v8).bind fun q9 =>
      if q9 = 0 then
        mX5_rarest_L40 tally n x4 (x5 + 1)
      else
        (rd tally.2.2.2.1 120 x5).bind fun v11 =>
        mX5_rarest_L40 tally n v11 (x5 + 1)
def mX5_rarest (ties : Int32) (row : RowT) (tally : TalT) (x1 : Int32) (x2 : Int32) (x3 : Int32) : Option (Int32 × TalT) :=
  (mX2_hasSpan row x1 x2).bind fun q1 =>
  if q1 = 0 then
    some ((-1), tally)
  else
    (mX5_isBelow x3 4).bind fun q3 =>
    if ¬ q3 = 0 then
      (mX5_tallySpan ties row tally x1 x2).bind fun q5 =>
      (mX5_rarest_L40 q5 FU q5.2.2.2.2.2.2.1 0).bind fun z12 =>
      (mX3_told q5 z12 x3 x1).bind fun q13 =>
      some (q13, q5)
    else
      some ((-1), tally)
def mX5_peeled_L55 (tally : TalT) (x3 : Int32) : Nat → Int32 → Int32 → Option (Int32)
  | 0, _, _ => none
  | n + 1, x4, x5 =>
    if x3 ≤ x5 then
      some x4
    else
      (rd tally.2.2.2.1 120 x5).bind fun v9 =>
      (rd tally.1 1000 v9).bind fun v10 =>
      mX5_peeled_L55 tally x3 n (x4 - v10) (x5 + 1)
def mX5_peeled (ties : Int32) (row : RowT) (tally : TalT) (x1 : Int32) (x2 : Int32) (x3 : Int32) : Option (Int32 × TalT) :=
  (mX2_hasSpan row x1 x2).bind fun q1 =>
  if q1 = 0 then
    some ((-1), tally)
  else
    if 0 ≤ x3 then
      (mX5_tallySpan ties row tally x1 x2).bind fun q4 =>
      if x3 ≤ q4.2.2.2.2.1 then
        (mX3_order q4).bind fun q6 =>
        (mX5_peeled_L55 q6 x3 FU ((x2 - x1) + 1) 0).bind fun z11 =>
        some (z11, q6)
      else
        some ((-2), q4)
    else
      some ((-1), tally)
def mX5_needed_L51 (tally : TalT) (x3 : Int32) (x4 : Int32) (x5 : Int32) : Nat → Int32 → Option (Int32 × TalT)
  | 0, _ => none
  | n + 1, x6 =>
    if x5 ≤ x6 then
      some (x5, tally)
    else
      (mX3_tooMany tally x3 ((x4 + x6) - 1)).bind fun q9 =>
      if x6 < q9 then
        mX5_needed_L51 tally x3 x4 x5 n (x6 + 1)
      else
        some (x6, tally)
def mX5_needed (ties : Int32) (row : RowT) (tally : TalT) (x1 : Int32) (x2 : Int32) (x3 : Int32) : Option (Int32 × TalT) :=
  (mX2_hasSpan row x1 x2).bind fun q1 =>
  if q1 = 0 then
    some ((-1), tally)
  else
    (mX5_isValue x3).bind fun q3 =>
    if ¬ q3 = 0 then
      (mX5_tallySpan ties row tally x1 x2).bind fun q5 =>
      (rd q5.1 1000 x3).bind fun v6 =>
      mX5_needed_L51 q5 x3 v6 (((x2 - x1) + 1) - v6) FU 0
    else
      some ((-1), tally)
def mX5_pair (block : Int32) (ties : Int32) (row : RowT) (tally : TalT) (x1 : Int32) (x2 : Int32) (x3 : Int32) : Option (Int32 × TalT) :=
  if x1 < 0 then
    some ((-1), tally)
  else
    if x2 < x1 then
      some ((-1), tally)
    else
      (mX5_blocksOf block row).bind fun q3 =>
      if q3 ≤ x2 then
        some ((-1), tally)
      else
        (mX5_isBelow x3 2).bind fun q5 =>
        if ¬ q5 = 0 then
          (mX5_blockEnd block row x2).bind fun q7 =>
          (mX5_tallySpan ties row tally (x1 * block) (q7 - 1)).bind fun q8 =>
          (mX3_told q8 q8.2.2.2.2.2.2.1 x3 0).bind fun q9 =>
          some (q9, q8)
        else
          some ((-1), tally)
def mX5_modeOf (ties : Int32) (row : RowT) (tally : TalT) (x1 : Int32) (x2 : Int32) : Option (Int32 × TalT) :=
  (mX5_tallySpan ties row tally x1 x2).bind fun q1 =>
  some (q1.2.2.2.2.2.2.1, q1)
def mX5_markCandidates_L93 (row : RowT) (x2 : Int32) (x3 : Int32) (x4 : Int32) : Nat → Int32 → TalT → Option (TalT)
  | 0, _, _ => none
  | n + 1, x5, aside =>
    if x2 < x5 then
      some aside
    else
      if x5 < x3 then
        (rd row.1 120 x5).bind fun v10 =>
        (mX3_push aside v10).bind fun q11 =>
        mX5_markCandidates_L93 row x2 x3 x4 n (x5 + 1) q11
      else
        if x5 < x4 then
          mX5_markCandidates_L93 row x2 x3 x4 n (x5 + 1) aside
        else
          (rd row.1 120 x5).bind fun v13 =>
          (mX3_push aside v13).bind fun q14 =>
          mX5_markCandidates_L93 row x2 x3 x4 n (x5 + 1) q14
def mX5_markCandidates (block : Int32) (ties : Int32) (row : RowT) (tally : TalT) (aside : TalT) (x1 : Int32) (x2 : Int32) : Option (TalT × TalT) :=
  (idv ((x1 + block) - 1) block).bind fun v1 =>
  (if ¬ x2 = (row.2.2 - 1) then
    (idv (x2 + 1) block).bind fun v20 =>
    some (v20 * block)
  else
    some row.2.2).bind fun (z2 : Int32) =>
  (mX3_begin aside ties).bind fun q4 =>
  (if z2 ≤ (v1 * block) then
    some (tally, q4)
  else
    (mX5_modeOf ties row tally (v1 * block) (z2 - 1)).bind fun q17 =>
    (mX3_push q4 q17.1).bind fun q18 =>
    some (q17.2, q18)).bind fun (z5 : TalT × TalT) =>
  (mX5_markCandidates_L93 row x2 (v1 * block) z2 FU x1 z5.2).bind fun z15 =>
  some (z5.1, z15)
def mX5_candidate_L44 (tally : TalT) (aside : TalT) (x3 : Int32) : Nat → Int32 → Int32 → Option (Int32 × TalT × TalT)
  | 0, _, _ => none
  | n + 1, x4, x5 =>
    if tally.2.2.2.2.1 ≤ x5 then
      if ¬ x3 = (-1) then
        some ((-2), tally, aside)
      else
        some (x4, tally, aside)
    else
      (rd tally.2.2.2.1 120 x5).bind fun v10 =>
      (rd aside.1 1000 v10).bind fun v11 =>
      if v11 ≤ 0 then
        mX5_candidate_L44 tally aside x3 n x4 (x5 + 1)
      else
        if ¬ x4 = x3 then
          mX5_candidate_L44 tally aside x3 n (x4 + 1) (x5 + 1)
        else
          (rd tally.2.2.2.1 120 x5).bind fun v14 =>
          some (v14, tally, aside)
def mX5_candidate (block : Int32) (ties : Int32) (row : RowT) (tally : TalT) (aside : TalT) (x1 : Int32) (x2 : Int32) (x3 : Int32) : Option (Int32 × TalT × TalT) :=
  (mX2_hasSpan row x1 x2).bind fun q1 =>
  if q1 = 0 then
    some ((-1), tally, aside)
  else
    if (-1) ≤ x3 then
      (mX5_markCandidates block ties row tally aside x1 x2).bind fun q4 =>
      (mX5_tallySpan ties row q4.1 x1 x2).bind fun q5 =>
      (mX3_order q5).bind fun q6 =>
      mX5_candidate_L44 q6 q4.2 x3 FU 0 0
    else
      some ((-1), tally, aside)
def mX5_at_L18 (row : RowT) (x1 : Int32) : Nat → Int32 → Int32 → Option (Int32)
  | 0, _, _ => none
  | n + 1, x3, x4 =>
    if row.2.2 ≤ x4 then
      some (-2)
    else
      (rd row.1 120 x4).bind fun v6 =>
      if ¬ v6 = x1 then
        mX5_at_L18 row x1 n x3 (x4 + 1)
      else
        if ¬ x3 = 0 then
          mX5_at_L18 row x1 n (x3 + (-1)) (x4 + 1)
        else
          some x4
def mX5_at (row : RowT) (x1 : Int32) (x2 : Int32) : Option (Int32) :=
  (mX5_isValue x1).bind fun q1 =>
  if q1 = 0 then
    some (-1)
  else
    if 0 ≤ x2 then
      mX5_at_L18 row x1 FU x2 0
    else
      some (-1)
def mX5_follow (row : RowT) (x1 : Int32) (x2 : Int32) (x3 : Int32) : Option (Int32) :=
  (mX5_isValue x1).bind fun q1 =>
  if q1 = 0 then
    some (-1)
  else
    (mX2_has row x2).bind fun q3 =>
    if ¬ q3 = 0 then
      if x3 = 0 then
        (mX2_from row x1 x2).bind fun q6 =>
        some q6
      else
        (mX2_upTo row x1 x2).bind fun q7 =>
        some q7
    else
      some (-1)
def mX5_gap_L17 (row : RowT) (x1 : Int32) : Nat → Int32 → Int32 → Int32 → Option (Int32)
  | 0, _, _, _ => none
  | n + 1, x2, x3, x4 =>
    if row.2.2 ≤ x4 then
      some x2
    else
      (rd row.1 120 x4).bind fun v5 =>
      if ¬ v5 = x1 then
        mX5_gap_L17 row x1 n x2 x3 (x4 + 1)
      else
        if x3 = (-1) then
          mX5_gap_L17 row x1 n x2 x4 (x4 + 1)
        else
          mX5_gap_L17 row x1 n (if x2 < (x4 - x3) then (x4 - x3) else x2) x4 (x4 + 1)
def mX5_gap (row : RowT) (x1 : Int32) : Option (Int32) :=
  (mX5_isValue x1).bind fun q1 =>
  if ¬ q1 = 0 then
    (mX5_gap_L17 row x1 FU (-2) (-1) 0).bind fun z8 =>
    some z8
  else
    some (-1)
def mX5_median_L29 (tally : TalT) : Nat → Int32 → Int32 → Option (Int32 × TalT)
  | 0, _, _ => none
  | n + 1, x3, x4 =>
    if 1000 ≤ x4 then
      some ((-1), tally)
    else
      (rd tally.1 1000 x4).bind fun v7 =>
      if 0 ≤ (x3 - v7) then
        mX5_median_L29 tally n (x3 - v7) (x4 + 1)
      else
        some (x4, tally)
def mX5_median (ties : Int32) (row : RowT) (tally : TalT) (x1 : Int32) (x2 : Int32) : Option (Int32 × TalT) :=
  (mX2_hasSpan row x1 x2).bind fun q1 =>
  if ¬ q1 = 0 then
    (mX5_tallySpan ties row tally x1 x2).bind fun q3 =>
    (idv (x2 - x1) 2).bind fun v4 =>
    mX5_median_L29 q3 FU v4 0
  else
    some ((-1), tally)
def mX5_twisted_L31 (row : RowT) (x2 : Int32) (x4 : Int32) : Nat → Int32 → Int32 → Option (Int32)
  | 0, _, _ => none
  | n + 1, x3, x5 =>
    if x2 < x5 then
      some x3
    else
      (rd row.1 120 x4).bind fun v7 =>
      (rd row.1 120 x5).bind fun v8 =>
      if v7 ≤ v8 then
        mX5_twisted_L31 row x2 x4 n x3 (x5 + 1)
      else
        mX5_twisted_L31 row x2 x4 n (x3 + 1) (x5 + 1)
def mX5_twisted_L19 (row : RowT) (x2 : Int32) : Nat → Int32 → Int32 → Option (Int32)
  | 0, _, _ => none
  | n + 1, x3, x4 =>
    if x2 < x4 then
      some x3
    else
      (mX5_twisted_L31 row x2 x4 FU x3 (x4 + 1)).bind fun z10 =>
      mX5_twisted_L19 row x2 n z10 (x4 + 1)
def mX5_twisted (row : RowT) (x1 : Int32) (x2 : Int32) : Option (Int32) :=
  (mX2_hasSpan row x1 x2).bind fun q1 =>
  if ¬ q1 = 0 then
    (mX5_twisted_L19 row x2 FU 0 x1).bind fun z11 =>
    some z11
  else
    some (-1)
def mX5_spanTold (row : RowT) (x1 : Int32) (x2 : Int32) (x3 : Int32) : Option (Int32) :=
  if ¬ x2 = 0 then
    if ¬ x3 = 2 then
      if ¬ x3 = 0 then
        some ((x1 + x2) - 1)
      else
        some x1
    else
      (rd row.1 120 x1).bind fun v4 =>
      some v4
  else
    some (-2)
def mX5_run_L34 (row : RowT) (x2 : Int32) : Nat → Int32 → Int32 → Int32 → Int32 → Option (Int32 × Int32)
  | 0, _, _, _, _ => none
  | n + 1, x4, x5, x6, x7 =>
    if x2 < x7 then
      some (x5, x6)
    else
      (rd row.1 120 x7).bind fun v7 =>
      (rd row.1 120 x4).bind fun v8 =>
      (if v7 = v8 then
        some x4
      else
        some x7).bind fun (z9 : Int32) =>
      if ((x7 - z9) + 1) ≤ x6 then
        mX5_run_L34 row x2 n z9 x5 x6 (x7 + 1)
      else
        mX5_run_L34 row x2 n z9 z9 ((x7 - z9) + 1) (x7 + 1)
def mX5_run (row : RowT) (x1 : Int32) (x2 : Int32) (x3 : Int32) : Option (Int32) :=
  (mX2_hasSpan row x1 x2).bind fun q1 =>
  if q1 = 0 then
    some (-1)
  else
    (mX5_isBelow x3 3).bind fun q3 =>
    if ¬ q3 = 0 then
      (mX5_run_L34 row x2 FU x1 x1 0 x1).bind fun z13 =>
      (mX5_spanTold row z13.1 z13.2 x3).bind fun q14 =>
      some q14
    else
      some (-1)
def mX5_common_L60 (row : RowT) (x1 : Int32) (x2 : Int32) (x3 : Int32) : Nat → Int32 → TalT → Option (TalT)
  | 0, _, _ => none
  | n + 1, x4, aside =>
    if (x3 + (x2 - x1)) < x4 then
      some aside
    else
      (rd row.1 120 x4).bind fun v11 =>
      (mX3_push aside v11).bind fun q12 =>
      mX5_common_L60 row x1 x2 x3 n (x4 + 1) q12
def mX5_common_L99 (tally : TalT) (aside : TalT) : Nat → Int32 → Int32 → Option (Int32)
  | 0, _, _ => none
  | n + 1, x4, x5 =>
    if tally.2.2.2.2.1 ≤ x5 then
      some x4
    else
      (rd tally.2.2.2.1 120 x5).bind fun v16 =>
      (rd tally.1 1000 v16).bind fun v17 =>
      (rd aside.1 1000 v16).bind fun v18 =>
      mX5_common_L99 tally aside n (x4 + (if v18 < v17 then v18 else v17)) (x5 + 1)
def mX5_common (ties : Int32) (row : RowT) (tally : TalT) (aside : TalT) (x1 : Int32) (x2 : Int32) (x3 : Int32) : Option (Int32 × TalT × TalT) :=
  (mX2_hasSpan row x1 x2).bind fun q1 =>
  if q1 = 0 then
    some ((-1), tally, aside)
  else
    (mX2_has row x3).bind fun q3 =>
    if q3 = 0 then
      some ((-1), tally, aside)
    else
      (mX2_has row (x3 + (x2 - x1))).bind fun q5 =>
      if ¬ q5 = 0 then
        (mX5_tallySpan ties row tally x1 x2).bind fun q7 =>
        (mX3_begin aside ties).bind fun q8 =>
        (mX5_common_L60 row x1 x2 x3 FU x3 q8).bind fun z13 =>
        (mX5_common_L99 q7 z13 FU 0 0).bind fun z19 =>
        some (z19, q7, z13)
      else
        some ((-1), tally, aside)
def mX5_together_L45 (row : RowT) (x1 : Int32) (x2 : Int32) (x4 : Int32) : Nat → Int32 → TalT → Option (TalT)
  | 0, _, _ => none
  | n + 1, x6, tally =>
    if x4 < x6 then
      some tally
    else
      if x6 < x1 then
        (rd row.1 120 x6).bind fun v11 =>
        (mX3_push tally v11).bind fun q12 =>
        mX5_together_L45 row x1 x2 x4 n (x6 + 1) q12
      else
        if x6 ≤ x2 then
          mX5_together_L45 row x1 x2 x4 n (x6 + 1) tally
        else
          (rd row.1 120 x6).bind fun v14 =>
          (mX3_push tally v14).bind fun q15 =>
          mX5_together_L45 row x1 x2 x4 n (x6 + 1) q15
def mX5_together (ties : Int32) (row : RowT) (tally : TalT) (x1 : Int32) (x2 : Int32) (x3 : Int32) (x4 : Int32) (x5 : Int32) : Option (Int32 × TalT) :=
  (mX2_hasSpan row x1 x2).bind fun q1 =>
  if q1 = 0 then
    some ((-1), tally)
  else
    (mX2_hasSpan row x3 x4).bind fun q3 =>
    if q3 = 0 then
      some ((-1), tally)
    else
      (mX5_isBelow x5 2).bind fun q5 =>
      if ¬ q5 = 0 then
        (mX5_tallySpan ties row tally x1 x2).bind fun q7 =>
        (mX5_together_L45 row x1 x2 x4 FU x3 q7).bind fun z16 =>
        (mX3_told z16 z16.2.2.2.2.2.2.1 x5 0).bind fun q17 =>
        some (q17, z16)
      else
        some ((-1), tally)
def mX5_agree (ties : Int32) (row : RowT) (tally : TalT) (x1 : Int32) (x2 : Int32) (x3 : Int32) : Option (Int32 × TalT) :=
  (mX2_hasSpan row x1 x2).bind fun q1 =>
  if q1 = 0 then
    some ((-1), tally)
  else
    (mX2_hasSpan row (x2 + 1) x3).bind fun q3 =>
    if ¬ q3 = 0 then
      (mX5_modeOf ties row tally x1 x2).bind fun q5 =>
      (mX5_modeOf ties row q5.2 (x2 + 1) x3).bind fun q6 =>
      if ¬ q5.1 = q6.1 then
        some (0, q6.2)
      else
        some (1, q6.2)
    else
      some ((-1), tally)
def mX5_split_L41 (row : RowT) (x2 : Int32) : Nat → Int32 → TalT → (Nat → Int32) → Option (TalT × (Nat → Int32))
  | 0, _, _, _ => none
  | n + 1, x4, tally, ahead =>
    if x2 ≤ x4 then
      some (tally, ahead)
    else
      (rd row.1 120 x4).bind fun v9 =>
      (mX3_push tally v9).bind fun q10 =>
      (mX3_most q10).bind fun q11 =>
      (wr ahead 121 x4 q11).bind fun a12 =>
      mX5_split_L41 row x2 n (x4 + 1) q10 a12
def mX5_split_L106 (row : RowT) (ahead : Nat → Int32) (x1 : Int32) : Nat → Int32 → Int32 → Int32 → TalT → Option (Int32 × Int32 × TalT)
  | 0, _, _, _, _ => none
  | n + 1, x4, x5, x6, tally =>
    if x6 < x1 then
      some (x4, x5, tally)
    else
      (rd row.1 120 (x6 + 1)).bind fun v17 =>
      (mX3_push tally v17).bind fun q18 =>
      (rd ahead 121 x6).bind fun v19 =>
      (mX3_most q18).bind fun q20 =>
      if (v19 + q20) < x5 then
        mX5_split_L106 row ahead x1 n x4 x5 (x6 + (-1)) q18
      else
        (rd ahead 121 x6).bind fun v22 =>
        (mX3_most q18).bind fun q23 =>
        mX5_split_L106 row ahead x1 n x6 (v22 + q23) (x6 + (-1)) q18
def mX5_split (ties : Int32) (row : RowT) (tally : TalT) (ahead : Nat → Int32) (x1 : Int32) (x2 : Int32) (x3 : Int32) : Option (Int32 × TalT × (Nat → Int32)) :=
  (mX2_hasSpan row x1 x2).bind fun q1 =>
  if q1 = 0 then
    some ((-1), tally, ahead)
  else
    if x1 = x2 then
      some ((-1), tally, ahead)
    else
      (mX5_isBelow x3 2).bind fun q4 =>
      if ¬ q4 = 0 then
        (mX3_begin tally ties).bind fun q6 =>
        (mX5_split_L41 row x2 FU x1 q6 ahead).bind fun z13 =>
        (mX3_begin z13.1 ties).bind fun q14 =>
        (mX5_split_L106 row z13.2 x1 FU x1 0 (x2 - 1) q14).bind fun z24 =>
        if ¬ x3 = 0 then
          some (z24.2.1, z24.2.2, z13.2)
        else
          some (z24.1, z24.2.2, z13.2)
      else
        some ((-1), tally, ahead)
def mX5_ifSet_L47 (row : RowT) (x1 : Int32) (x2 : Int32) (x4 : Int32) : Nat → Int32 → TalT → Option (TalT)
  | 0, _, _ => none
  | n + 1, x5, tally =>
    if x4 < x5 then
      some tally
    else
      if ¬ x5 = x1 then
        (rd row.1 120 x5).bind fun v11 =>
        (mX3_push tally v11).bind fun q12 =>
        mX5_ifSet_L47 row x1 x2 x4 n (x5 + 1) q12
      else
        (mX3_push tally x2).bind fun q13 =>
        mX5_ifSet_L47 row x1 x2 x4 n (x5 + 1) q13
def mX5_ifSet (ties : Int32) (row : RowT) (tally : TalT) (x1 : Int32) (x2 : Int32) (x3 : Int32) (x4 : Int32) : Option (Int32 × TalT) :=
  (mX2_has row x1).bind fun q1 =>
  if q1 = 0 then
    some ((-1), tally)
  else
    (mX5_isValue x2).bind fun q3 =>
    if q3 = 0 then
      some ((-1), tally)
    else
      (mX2_hasSpan row x3 x4).bind fun q5 =>
      if ¬ q5 = 0 then
        (mX3_begin tally ties).bind fun q7 =>
        (mX5_ifSet_L47 row x1 x2 x4 FU x3 q7).bind fun z14 =>
        some (z14.2.2.2.2.2.2.1, z14)
      else
        some ((-1), tally)
def mX5_ifOut_L46 (row : RowT) (x1 : Int32) (x3 : Int32) : Nat → Int32 → TalT → Option (TalT)
  | 0, _, _ => none
  | n + 1, x4, tally =>
    if x3 < x4 then
      some tally
    else
      if x4 = x1 then
        mX5_ifOut_L46 row x1 x3 n (x4 + 1) tally
      else
        (rd row.1 120 x4).bind fun v10 =>
        (mX3_push tally v10).bind fun q11 =>
        mX5_ifOut_L46 row x1 x3 n (x4 + 1) q11
def mX5_ifOut (ties : Int32) (row : RowT) (tally : TalT) (x1 : Int32) (x2 : Int32) (x3 : Int32) : Option (Int32 × TalT) :=
  (mX2_hasSpan row x2 x3).bind fun q1 =>
  if q1 = 0 then
    some ((-1), tally)
  else
    if x1 < x2 then
      some ((-1), tally)
    else
      if x1 ≤ x3 then
        if ¬ x2 = x3 then
          (mX3_begin tally ties).bind fun q6 =>
          (mX5_ifOut_L46 row x1 x3 FU x2 q6).bind fun z12 =>
          some (z12.2.2.2.2.2.2.1, z12)
        else
          some ((-2), tally)
      else
        some ((-1), tally)
def mX5_ifTies_L34 (row : RowT) (x3 : Int32) : Nat → Int32 → TalT → Option (TalT)
  | 0, _, _ => none
  | n + 1, x4, tally =>
    if x3 < x4 then
      some tally
    else
      (rd row.1 120 x4).bind fun v8 =>
      (mX3_push tally v8).bind fun q9 =>
      mX5_ifTies_L34 row x3 n (x4 + 1) q9
def mX5_ifTies (row : RowT) (tally : TalT) (x1 : Int32) (x2 : Int32) (x3 : Int32) : Option (Int32 × TalT) :=
  if x1 < 0 then
    some ((-1), tally)
  else
    if 3 < x1 then
      some ((-1), tally)
    else
      (mX2_hasSpan row x2 x3).bind fun q3 =>
      if ¬ q3 = 0 then
        (mX3_begin tally x1).bind fun q5 =>
        (mX5_ifTies_L34 row x3 FU x2 q5).bind fun z10 =>
        some (z10.2.2.2.2.2.2.1, z10)
      else
        some ((-1), tally)
def mX5_window (ties : Int32) (row : RowT) (tally : TalT) (x1 : Int32) (x2 : Int32) : Option (Int32 × TalT) :=
  if x1 < 1 then
    some ((-1), tally)
  else
    if row.2.2 < x1 then
      some ((-1), tally)
    else
      if 0 ≤ x2 then
        if x2 ≤ (row.2.2 - x1) then
          (mX5_modeOf ties row tally x2 ((x2 + x1) - 1)).bind fun q5 =>
          some (q5.1, q5.2)
        else
          some ((-2), tally)
      else
        some ((-1), tally)
def mX5_windows_L42 (ties : Int32) (row : RowT) (x1 : Int32) : Nat → Int32 → Int32 → Int32 → TalT → TalT → Option (Int32 × TalT × TalT)
  | 0, _, _, _, _, _ => none
  | n + 1, x3, x4, x5, tally, aside =>
    if (row.2.2 - x1) < x5 then
      some (x3, tally, aside)
    else
      (mX5_modeOf ties row tally x5 ((x5 + x1) - 1)).bind fun q8 =>
      (if x5 ≤ 0 then
        some x3
      else
        if q8.1 = x4 then
          some x3
        else
          some (x3 + 1)).bind fun (z9 : Int32) =>
      (mX3_push aside q8.1).bind fun q11 =>
      mX5_windows_L42 ties row x1 n z9 q8.1 (x5 + 1) q8.2 q11
def mX5_windows (ties : Int32) (row : RowT) (tally : TalT) (aside : TalT) (x1 : Int32) (x2 : Int32) : Option (Int32 × TalT × TalT) :=
  if x1 < 1 then
    some ((-1), tally, aside)
  else
    if row.2.2 < x1 then
      some ((-1), tally, aside)
    else
      (mX5_isBelow x2 3).bind fun q3 =>
      if ¬ q3 = 0 then
        (mX3_begin aside 2).bind fun q5 =>
        (mX5_windows_L42 ties row x1 FU 0 (-1) 0 tally q5).bind fun z14 =>
        if ¬ x2 = 0 then
          if ¬ x2 = 1 then
            some (z14.2.2.2.2.2.2.2.2.1, z14.2.1, z14.2.2)
          else
            some (z14.2.2.2.2.2.2.1, z14.2.1, z14.2.2)
        else
          some (z14.1, z14.2.1, z14.2.2)
      else
        some ((-1), tally, aside)
def mX5_beginnings_L43 (row : RowT) : Nat → Int32 → Int32 → Int32 → Int32 → Int32 → TalT → TalT → Option (Int32 × Int32 × Int32 × TalT × TalT)
  | 0, _, _, _, _, _, _, _ => none
  | n + 1, x2, x3, x4, x5, x6, tally, aside =>
    if row.2.2 ≤ x6 then
      some (x2, x3, x4, tally, aside)
    else
      (rd row.1 120 x6).bind fun v7 =>
      (mX3_push tally v7).bind fun q8 =>
      (mX3_push aside q8.2.2.2.2.2.2.1).bind fun q9 =>
      (if x6 ≤ 0 then
        some (x2, x3)
      else
        if q8.2.2.2.2.2.2.1 = x5 then
          some (x2, x3)
        else
          some ((x2 + 1), x6)).bind fun (z10 : Int32 × Int32) =>
      mX5_beginnings_L43 row n z10.1 z10.2 (if x4 < (x6 - z10.2) then (x6 - z10.2) else x4) q8.2.2.2.2.2.2.1 (x6 + 1) q8 q9
def mX5_beginnings (ties : Int32) (row : RowT) (tally : TalT) (aside : TalT) (x1 : Int32) : Option (Int32 × TalT × TalT) :=
  (mX5_isBelow x1 4).bind fun q1 =>
  if ¬ q1 = 0 then
    (mX3_begin tally ties).bind fun q3 =>
    (mX3_begin aside 2).bind fun q4 =>
    (mX5_beginnings_L43 row FU 0 0 (-2) (-1) 0 q3 q4).bind fun z14 =>
    if x1 = 0 then
      some (z14.1, z14.2.2.2.1, z14.2.2.2.2)
    else if x1 = 1 then
      if ¬ z14.1 = 0 then
        some (z14.2.1, z14.2.2.2.1, z14.2.2.2.2)
      else
        some ((-2), z14.2.2.2.1, z14.2.2.2.2)
    else if x1 = 2 then
      some (z14.2.2.2.2.2.2.2.2.1, z14.2.2.2.1, z14.2.2.2.2)
    else 
      some (z14.2.2.1, z14.2.2.2.1, z14.2.2.2.2)
  else
    some ((-1), tally, aside)
def mX5_spans_L38 (row : RowT) (x1 : Int32) : Nat → Int32 → Int32 → TalT → Option (Int32 × TalT)
  | 0, _, _, _ => none
  | n + 1, x2, x4, tally =>
    if row.2.2 ≤ x4 then
      some (x2, tally)
    else
      (rd row.1 120 x4).bind fun v8 =>
      (mX3_push tally v8).bind fun q9 =>
      if ¬ q9.2.2.2.2.2.2.1 = x1 then
        mX5_spans_L38 row x1 n x2 (x4 + 1) q9
      else
        mX5_spans_L38 row x1 n (x2 + 1) (x4 + 1) q9
def mX5_spans_L13 (ties : Int32) (row : RowT) (x1 : Int32) : Nat → Int32 → Int32 → TalT → Option (Int32 × TalT)
  | 0, _, _, _ => none
  | n + 1, x2, x3, tally =>
    if row.2.2 ≤ x3 then
      some (x2, tally)
    else
      (mX3_begin tally ties).bind fun q5 =>
      (mX5_spans_L38 row x1 FU x2 x3 q5).bind fun z11 =>
      mX5_spans_L13 ties row x1 n z11.1 (x3 + 1) z11.2
def mX5_spans (ties : Int32) (row : RowT) (tally : TalT) (x1 : Int32) : Option (Int32 × TalT) :=
  (mX5_isValue x1).bind fun q1 =>
  if ¬ q1 = 0 then
    (mX5_spans_L13 ties row x1 FU 0 0 tally).bind fun z12 =>
    some (z12.1, z12.2)
  else
    some ((-1), tally)
def mX5_longest_L55 (row : RowT) (x1 : Int32) (x5 : Int32) : Nat → Int32 → Int32 → Int32 → TalT → Option (Int32 × Int32 × TalT)
  | 0, _, _, _, _ => none
  | n + 1, x3, x4, x6, tally =>
    if row.2.2 ≤ x6 then
      some (x3, x4, tally)
    else
      (rd row.1 120 x6).bind fun v10 =>
      (mX3_push tally v10).bind fun q11 =>
      if ¬ q11.2.2.2.2.2.2.1 = x1 then
        mX5_longest_L55 row x1 x5 n x3 x4 (x6 + 1) q11
      else
        if ((x6 - x5) + 1) ≤ x4 then
          mX5_longest_L55 row x1 x5 n x3 x4 (x6 + 1) q11
        else
          mX5_longest_L55 row x1 x5 n x5 ((x6 - x5) + 1) (x6 + 1) q11
def mX5_longest_L25 (ties : Int32) (row : RowT) (x1 : Int32) : Nat → Int32 → Int32 → Int32 → TalT → Option (Int32 × Int32 × TalT)
  | 0, _, _, _, _ => none
  | n + 1, x3, x4, x5, tally =>
    if (row.2.2 - x4) ≤ x5 then
      some (x3, x4, tally)
    else
      (mX3_begin tally ties).bind fun q7 =>
      (mX5_longest_L55 row x1 x5 FU x3 x4 x5 q7).bind fun z14 =>
      mX5_longest_L25 ties row x1 n z14.1 z14.2.1 (x5 + 1) z14.2.2
def mX5_longest (ties : Int32) (row : RowT) (tally : TalT) (x1 : Int32) (x2 : Int32) : Option (Int32 × TalT) :=
  (mX5_isValue x1).bind fun q1 =>
  if q1 = 0 then
    some ((-1), tally)
  else
    (mX5_isBelow x2 2).bind fun q3 =>
    if ¬ q3 = 0 then
      (mX5_longest_L25 ties row x1 FU 0 0 0 tally).bind fun z15 =>
      (mX5_spanTold row z15.1 z15.2.1 x2).bind fun q16 =>
      some (q16, z15.2.2)
    else
      some ((-1), tally)
def mX5_reign_L47 (row : RowT) (x1 : Int32) (x5 : Int32) : Nat → Int32 → Int32 → Int32 → Int32 → Option (Int32 × Int32)
  | 0, _, _, _, _ => none
  | n + 1, x3, x4, x6, x7 =>
    if row.2.2 ≤ x7 then
      some (x3, x4)
    else
      (rd row.1 120 x7).bind fun v9 =>
      (if ¬ v9 = x1 then
        some x6
      else
        some (x6 + 1)).bind fun (z10 : Int32) =>
      if (2 * z10) ≤ ((x7 - x5) + 1) then
        mX5_reign_L47 row x1 x5 n x3 x4 z10 (x7 + 1)
      else
        if ((x7 - x5) + 1) ≤ x4 then
          mX5_reign_L47 row x1 x5 n x3 x4 z10 (x7 + 1)
        else
          mX5_reign_L47 row x1 x5 n x5 ((x7 - x5) + 1) z10 (x7 + 1)
def mX5_reign_L25 (row : RowT) (x1 : Int32) : Nat → Int32 → Int32 → Int32 → Option (Int32 × Int32)
  | 0, _, _, _ => none
  | n + 1, x3, x4, x5 =>
    if (row.2.2 - x4) ≤ x5 then
      some (x3, x4)
    else
      (mX5_reign_L47 row x1 x5 FU x3 x4 0 x5).bind fun z15 =>
      mX5_reign_L25 row x1 n z15.1 z15.2 (x5 + 1)
def mX5_reign (row : RowT) (x1 : Int32) (x2 : Int32) : Option (Int32) :=
  (mX5_isValue x1).bind fun q1 =>
  if q1 = 0 then
    some (-1)
  else
    (mX5_isBelow x2 2).bind fun q3 =>
    if ¬ q3 = 0 then
      (mX5_reign_L25 row x1 FU 0 0 0).bind fun z16 =>
      (mX5_spanTold row z16.1 z16.2 x2).bind fun q17 =>
      some q17
    else
      some (-1)
def mX5_tightest_L23 (row : RowT) (x1 : Int32) : Nat → Int32 → Int32 → Int32 → Option (Int32 × Int32)
  | 0, _, _, _ => none
  | n + 1, x3, x4, x5 =>
    if row.2.2 ≤ x5 then
      some (x3, x4)
    else
      (rd row.1 120 x5).bind fun v6 =>
      (mX2_nth row v6 x5 x1).bind fun q7 =>
      if q7 = (-2) then
        mX5_tightest_L23 row x1 n x3 x4 (x5 + 1)
      else
        if x4 = 0 then
          mX5_tightest_L23 row x1 n x5 ((q7 - x5) + 1) (x5 + 1)
        else
          if x4 ≤ ((q7 - x5) + 1) then
            mX5_tightest_L23 row x1 n x3 x4 (x5 + 1)
          else
            mX5_tightest_L23 row x1 n x5 ((q7 - x5) + 1) (x5 + 1)
def mX5_tightest (row : RowT) (x1 : Int32) (x2 : Int32) : Option (Int32) :=
  if x1 < 1 then
    some (-1)
  else
    (mX5_isBelow x2 3).bind fun q2 =>
    if ¬ q2 = 0 then
      (mX5_tightest_L23 row x1 FU 0 0 0).bind fun z11 =>
      (mX5_spanTold row z11.1 z11.2 x2).bind fun q12 =>
      some q12
    else
      some (-1)
def mX5_widthWith_L13 (row : RowT) (x1 : Int32) (x2 : Int32) : Nat → Int32 → TalT → Option (Int32 × TalT)
  | 0, _, _ => none
  | n + 1, x3, tally =>
    if row.2.2 ≤ x3 then
      some (121, tally)
    else
      (rd row.1 120 x3).bind fun v4 =>
      (mX3_push tally v4).bind fun q5 =>
      (mX3_most q5).bind fun q6 =>
      if q6 < x1 then
        mX5_widthWith_L13 row x1 x2 n (x3 + 1) q5
      else
        some (((x3 - x2) + 1), q5)
def mX5_widthWith (ties : Int32) (row : RowT) (tally : TalT) (x1 : Int32) (x2 : Int32) : Option (Int32 × TalT) :=
  (mX3_begin tally ties).bind fun q1 =>
  mX5_widthWith_L13 row x1 x2 FU x2 q1
def mX5_wide_L9 (ties : Int32) (row : RowT) (x1 : Int32) : Nat → Int32 → TalT → (Nat → Int32) → Option (TalT × (Nat → Int32))
  | 0, _, _, _ => none
  | n + 1, x2, tally, ahead =>
    if row.2.2 ≤ x2 then
      some (tally, ahead)
    else
      (mX5_widthWith ties row tally x1 x2).bind fun q4 =>
      (wr ahead 121 x2 q4.1).bind fun a5 =>
      mX5_wide_L9 ties row x1 n (x2 + 1) q4.2 a5
def mX5_wide_L53 (row : RowT) (ahead : Nat → Int32) (x2 : Int32) : Nat → Int32 → Option (Int32)
  | 0, _ => none
  | n + 1, x3 =>
    if (row.2.2 - x2) < x3 then
      some x3
    else
      (rd ahead 121 x3).bind fun v11 =>
      if x2 < v11 then
        some x3
      else
        mX5_wide_L53 row ahead x2 n (x3 + 1)
def mX5_wide_L40 (row : RowT) (tally : TalT) (ahead : Nat → Int32) : Nat → Int32 → Option (Int32 × TalT × (Nat → Int32))
  | 0, _ => none
  | n + 1, x2 =>
    if row.2.2 < x2 then
      some ((-2), tally, ahead)
    else
      (mX5_wide_L53 row ahead x2 FU 0).bind fun z13 =>
      if z13 ≤ (row.2.2 - x2) then
        mX5_wide_L40 row tally ahead n (x2 + 1)
      else
        some (x2, tally, ahead)
def mX5_wide (ties : Int32) (row : RowT) (tally : TalT) (ahead : Nat → Int32) (x1 : Int32) : Option (Int32 × TalT × (Nat → Int32)) :=
  if 1 ≤ x1 then
    (mX5_wide_L9 ties row x1 FU 0 tally ahead).bind fun z6 =>
    mX5_wide_L40 row z6.1 z6.2 FU 1
  else
    some ((-1), tally, ahead)
def mX5_behindPart_L13 (row : RowT) (ahead : Nat → Int32) (x1 : Int32) : Nat → Int32 → TalT → Option (Int32 × TalT)
  | 0, _, _ => none
  | n + 1, x2, tally =>
    if row.2.2 ≤ x2 then
      some (row.2.2, tally)
    else
      (rd row.1 120 x2).bind fun v4 =>
      (mX3_push tally v4).bind fun q5 =>
      (mX3_hasMajority q5).bind fun q6 =>
      if q6 = 0 then
        mX5_behindPart_L13 row ahead x1 n (x2 + 1) q5
      else
        (rd ahead 121 (x2 + 1)).bind fun v8 =>
        (rd ahead 121 x1).bind fun v9 =>
        if ¬ (v8 + 1) = v9 then
          mX5_behindPart_L13 row ahead x1 n (x2 + 1) q5
        else
          some ((x2 + 1), q5)
def mX5_behindPart (ties : Int32) (row : RowT) (tally : TalT) (ahead : Nat → Int32) (x1 : Int32) : Option (Int32 × TalT) :=
  (mX3_begin tally ties).bind fun q1 =>
  mX5_behindPart_L13 row ahead x1 FU x1 q1
def mX5_fewestParts_L48 (row : RowT) (x1 : Int32) : Nat → Int32 → TalT → (Nat → Int32) → Option (TalT × (Nat → Int32))
  | 0, _, _, _ => none
  | n + 1, x2, tally, ahead =>
    if row.2.2 ≤ x2 then
      some (tally, ahead)
    else
      (rd row.1 120 x2).bind fun v8 =>
      (mX3_push tally v8).bind fun q9 =>
      (mX3_hasMajority q9).bind fun q10 =>
      if q10 = 0 then
        mX5_fewestParts_L48 row x1 n (x2 + 1) q9 ahead
      else
        (rd ahead 121 x1).bind fun v12 =>
        (rd ahead 121 (x2 + 1)).bind fun v13 =>
        (wr ahead 121 x1 (if (v13 + 1) < v12 then (v13 + 1) else v12)).bind fun a14 =>
        mX5_fewestParts_L48 row x1 n (x2 + 1) q9 a14
def mX5_fewestParts_L23 (ties : Int32) (row : RowT) : Nat → Int32 → TalT → (Nat → Int32) → Option (TalT × (Nat → Int32))
  | 0, _, _, _ => none
  | n + 1, x1, tally, ahead =>
    if x1 < 0 then
      some (tally, ahead)
    else
      (wr ahead 121 x1 120).bind fun a4 =>
      (mX3_begin tally ties).bind fun q5 =>
      (mX5_fewestParts_L48 row x1 FU x1 q5 a4).bind fun z15 =>
      mX5_fewestParts_L23 ties row n (x1 + (-1)) z15.1 z15.2
def mX5_fewestParts (ties : Int32) (row : RowT) (tally : TalT) (ahead : Nat → Int32)  : Option (TalT × (Nat → Int32)) :=
  (wr ahead 121 row.2.2 0).bind fun a1 =>
  (mX5_fewestParts_L23 ties row FU (row.2.2 - 1) tally a1).bind fun z16 =>
  some (z16.1, z16.2)
def mX5_part_L38 (ties : Int32) (row : RowT) (ahead : Nat → Int32) (x1 : Int32) : Nat → Int32 → Int32 → TalT → Option (Int32 × TalT)
  | 0, _, _, _ => none
  | n + 1, x3, x4, tally =>
    if x1 ≤ x4 then
      some (x3, tally)
    else
      (mX5_behindPart ties row tally ahead x3).bind fun q8 =>
      mX5_part_L38 ties row ahead x1 n q8.1 (x4 + 1) q8.2
def mX5_part (ties : Int32) (row : RowT) (tally : TalT) (ahead : Nat → Int32) (x1 : Int32) : Option (Int32 × TalT × (Nat → Int32)) :=
  if (-1) ≤ x1 then
    (mX5_fewestParts ties row tally ahead).bind fun q2 =>
    (rd q2.2 121 0).bind fun v3 =>
    if ¬ x1 = (-1) then
      if x1 < v3 then
        (mX5_part_L38 ties row q2.2 x1 FU 0 0 q2.1).bind fun z9 =>
        some (z9.1, z9.2, q2.2)
      else
        some ((-2), q2.1, q2.2)
    else
      some (v3, q2.1, q2.2)
  else
    some ((-1), tally, ahead)
def mX5_count (block : Int32) (ties : Int32) (lines : Int32) (tape : TapT) (row : RowT) (past : PasT) (tally : TalT) (x1 : Int32) : Option (Int32 × TalT) :=
  if x1 = 0 then
    some (row.2.2, tally)
  else if x1 = 1 then
    some (block, tally)
  else if x1 = 2 then
    (mX5_blocksOf block row).bind fun q3 =>
    some (q3, tally)
  else if x1 = 3 then
    some (ties, tally)
  else if x1 = 4 then
    some (lines, tally)
  else if x1 = 5 then
    (mX5_tallySpan ties row tally 0 (row.2.2 - 1)).bind fun q7 =>
    some (q7.2.2.2.2.1, q7)
  else if x1 = 6 then
    some (past.2.1, tally)
  else if x1 = 7 then
    (mX2_allWeights row).bind fun q10 =>
    some (q10, tally)
  else if x1 = 8 then
    some (tape.2.1, tally)
  else 
    some ((-1), tally)
def mX6_thrown (thrown : Int32)  : Option (Int32) :=
  some thrown
def mX6_feed_L20 (taped : Int32) (x1 : Int32) (x2 : Int32) (x3 : Int32) (x4 : Int32) (x5 : Int32) : Nat → Int32 → (Nat → Int32) → Option ((Nat → Int32))
  | 0, _, _ => none
  | n + 1, x6, tape =>
    if 20 ≤ x6 then
      some tape
    else
      (if 4 ≤ x6 then
        if 8 ≤ x6 then
          if 12 ≤ x6 then
            if 16 ≤ x6 then
              some x5
            else
              some x4
          else
            some x3
        else
          some x2
      else
        some x1).bind fun (z4 : Int32) =>
      (irm x6 4).bind fun v6 =>
      (wr tape 900 (taped + x6) ((z4 >>> ((24 - (8 * v6)) &&& 31)) &&& 255)).bind fun a7 =>
      mX6_feed_L20 taped x1 x2 x3 x4 x5 n (x6 + 1) a7
def mX6_feed (thrown : Int32) (tape : Nat → Int32) (taped : Int32) (x1 : Int32) (x2 : Int32) (x3 : Int32) (x4 : Int32) (x5 : Int32) : Option (Int32 × Int32 × (Nat → Int32) × Int32) :=
  if taped ≤ 880 then
    (mX6_feed_L20 taped x1 x2 x3 x4 x5 FU 0 tape).bind fun z12 =>
    some ((taped + 20), 0, z12, (taped + 20))
  else
    some ((-1), 0, tape, taped)
def mX6_here (tape : Nat → Int32) (size : Int32) (att : Int32)  : Option (Int32) :=
  if size ≤ att then
    some (-1)
  else
    (rd tape 900 att).bind fun v2 =>
    some v2
def mX6_isSmall  (x0 : Int32) : Option (Int32) :=
  if x0 < 97 then
    some 0
  else
    if 122 < x0 then
      some 0
    else
      some 1
def mX6_isDigit  (x0 : Int32) : Option (Int32) :=
  if x0 < 48 then
    some 0
  else
    if 57 < x0 then
      some 0
    else
      some 1
def mX6_wordHere_L15 (tape : Nat → Int32) (att : Int32) (place : Int32) (x2 : Int32) : Nat → Int32 → Option (Int32)
  | 0, _ => none
  | n + 1, x3 =>
    (sC 10 (x2 + x3)).bind fun v4 =>
    if v4 = 32 then
      some x3
    else
      if att ≤ (place + x3) then
        some x3
      else
        (rd tape 900 (place + x3)).bind fun v7 =>
        (sC 10 (x2 + x3)).bind fun v8 =>
        if ¬ v7 = v8 then
          some x3
        else
          mX6_wordHere_L15 tape att place x2 n (x3 + 1)
def mX6_wordHere_L97  : Nat → Int32 → Option (Int32)
  | 0, _ => none
  | n + 1, x2 =>
    (sC 10 x2).bind fun v14 =>
    if v14 = 32 then
      some x2
    else
      mX6_wordHere_L97  n (x2 + 1)
def mX6_wordHere_L4 (tape : Nat → Int32) (att : Int32) (place : Int32) : Nat → Int32 → Int32 → Option (Int32)
  | 0, _, _ => none
  | n + 1, x1, x2 =>
    if (sL 10) ≤ x2 then
      some (-1)
    else
      (mX6_wordHere_L15 tape att place x2 FU 0).bind fun z10 =>
      (sC 10 (x2 + z10)).bind fun v11 =>
      if ¬ v11 = 32 then
        (mX6_wordHere_L97  FU x2).bind fun z16 =>
        mX6_wordHere_L4 tape att place n (x1 + 1) (z16 + 1)
      else
        if ¬ (place + z10) = att then
          (mX6_wordHere_L97  FU x2).bind fun z21 =>
          mX6_wordHere_L4 tape att place n (x1 + 1) (z21 + 1)
        else
          some x1
def mX6_wordHere (tape : Nat → Int32) (att : Int32) (place : Int32)  : Option (Int32) :=
  mX6_wordHere_L4 tape att place FU 0 0
def mX6_token_L0 (tape : Nat → Int32) (size : Int32) : Nat → Int32 → Option (Int32)
  | 0, _ => none
  | n + 1, att =>
    (mX6_here tape size att).bind fun q2 =>
    if q2 = 10 then
      mX6_token_L0 tape size n (att + 1)
    else
      (mX6_here tape size att).bind fun q4 =>
      if ¬ q4 = 32 then
        some att
      else
        mX6_token_L0 tape size n (att + 1)
def mX6_token_L120 (tape : Nat → Int32) (size : Int32) : Nat → Int32 → Int32 → Option (Int32 × Int32)
  | 0, _, _ => none
  | n + 1, att, number =>
    (mX6_here tape size att).bind fun q17 =>
    (mX6_isDigit q17).bind fun q18 =>
    if q18 = 0 then
      some (att, number)
    else
      (if number ≤ 9999 then
        (mX6_here tape size att).bind fun q23 =>
        some (((10 * number) + q23) - 48)
      else
        some number).bind fun (z20 : Int32) =>
      mX6_token_L120 tape size n (att + 1) z20
def mX6_token_L64 (tape : Nat → Int32) (size : Int32) : Nat → Int32 → Option (Int32)
  | 0, _ => none
  | n + 1, att =>
    (mX6_here tape size att).bind fun q26 =>
    (mX6_isSmall q26).bind fun q27 =>
    if q27 = 0 then
      some att
    else
      mX6_token_L64 tape size n (att + 1)
def mX6_token (tape : Nat → Int32) (size : Int32) (att : Int32) (place : Int32) (sort : Int32) (number : Int32)  : Option (Int32 × Int32 × Int32 × Int32) :=
  (mX6_token_L0 tape size FU att).bind fun z6 =>
  (mX6_here tape size z6).bind fun q7 =>
  if ¬ q7 = (-1) then
    (mX6_isSmall q7).bind fun q9 =>
    if q9 = 0 then
      (mX6_isDigit q7).bind fun q11 =>
      if q11 = 0 then
        (if ¬ q7 = 59 then
          some 4
        else
          some 2).bind fun (z13 : Int32) =>
        some ((z6 + 1), z6, z13, number)
      else
        (mX6_token_L120 tape size FU z6 0).bind fun z24 =>
        some (z24.1, z6, 1, z24.2)
    else
      (mX6_token_L64 tape size FU z6).bind fun z29 =>
      (mX6_wordHere tape z29 z6).bind fun q30 =>
      some (z29, z6, 0, q30)
  else
    some (z6, z6, 3, number)
def mX6_wrong (place : Int32) (fault : Int32) (faultPlace : Int32) (x1 : Int32) : Option (Int32 × Int32) :=
  if fault = 0 then
    some (x1, place)
  else
    some (fault, faultPlace)
def mX6_goOn (tape : Nat → Int32) (size : Int32) (att : Int32) (place : Int32) (sort : Int32) (number : Int32) (fault : Int32)  : Option (Int32 × Int32 × Int32 × Int32) :=
  if ¬ fault = 0 then
    some (att, place, sort, number)
  else
    (mX6_token tape size att place sort number).bind fun q2 =>
    some (q2.1, q2.2.1, q2.2.2.1, q2.2.2.2)
def mX6_within (tape : Nat → Int32) (size : Int32) (att : Int32) (place : Int32) (sort : Int32) (number : Int32) (fault : Int32) (faultPlace : Int32) (x1 : Int32) (x2 : Int32) : Option (Int32 × Int32 × Int32 × Int32 × Int32 × Int32 × Int32) :=
  (if ¬ fault = 0 then
    some (fault, faultPlace)
  else
    if sort = 1 then
      some (fault, faultPlace)
    else
      (mX6_wrong place fault faultPlace 1).bind fun q16 =>
      some (q16.1, q16.2)).bind fun (z1 : Int32 × Int32) =>
  (if ¬ z1.1 = 0 then
    some (z1.1, z1.2)
  else
    if number < x1 then
      (mX6_wrong place z1.1 z1.2 2).bind fun q11 =>
      some (q11.1, q11.2)
    else
      if number ≤ x2 then
        some (z1.1, z1.2)
      else
        (mX6_wrong place z1.1 z1.2 2).bind fun q13 =>
        some (q13.1, q13.2)).bind fun (z3 : Int32 × Int32) =>
  (if ¬ z3.1 = 0 then
    some x1
  else
    some number).bind fun (z5 : Int32) =>
  (mX6_goOn tape size att place sort number z3.1).bind fun q7 =>
  some (z5, q7.1, q7.2.1, q7.2.2.1, q7.2.2.2, z3.1, z3.2)
def mX6_readRow_L24 (tape : Nat → Int32) (size : Int32) : Nat → (Nat → Int32) → (Nat → Int32) → Int32 → Int32 → Int32 → Int32 → Int32 → Int32 → Int32 → Option ((Nat → Int32) × (Nat → Int32) × Int32 × Int32 × Int32 × Int32 × Int32 × Int32 × Int32)
  | 0, _, _, _, _, _, _, _, _, _ => none
  | n + 1, newValue, newWeight, newMany, att, place, sort, number, fault, faultPlace =>
    if ¬ fault = 0 then
      some (newValue, newWeight, newMany, att, place, sort, number, fault, faultPlace)
    else
      if ¬ sort = 1 then
        some (newValue, newWeight, newMany, att, place, sort, number, fault, faultPlace)
      else
        (if ¬ newMany = 120 then
          some (fault, faultPlace)
        else
          (mX6_wrong place fault faultPlace 2).bind fun q14 =>
          some (q14.1, q14.2)).bind fun (z7 : Int32 × Int32) =>
        (mX6_within tape size att place sort number z7.1 z7.2 0 999).bind fun q9 =>
        if q9.2.2.2.2.2.1 = 0 then
          (wr newValue 120 newMany q9.1).bind fun a11 =>
          (wr newWeight 120 newMany 1).bind fun a12 =>
          mX6_readRow_L24 tape size n a11 a12 (newMany + 1) q9.2.1 q9.2.2.1 q9.2.2.2.1 q9.2.2.2.2.1 q9.2.2.2.2.2.1 q9.2.2.2.2.2.2
        else
          some (newValue, newWeight, newMany, q9.2.1, q9.2.2.1, q9.2.2.2.1, q9.2.2.2.2.1, q9.2.2.2.2.2.1, q9.2.2.2.2.2.2)
def mX6_readRow (tape : Nat → Int32) (newValue : Nat → Int32) (newWeight : Nat → Int32) (newMany : Int32) (size : Int32) (att : Int32) (place : Int32) (sort : Int32) (number : Int32) (fault : Int32) (faultPlace : Int32)  : Option ((Nat → Int32) × (Nat → Int32) × Int32 × Int32 × Int32 × Int32 × Int32 × Int32 × Int32) :=
  (mX6_goOn tape size att place sort number fault).bind fun q1 =>
  (if ¬ fault = 0 then
    some (fault, faultPlace)
  else
    if q1.2.2.1 = 1 then
      some (fault, faultPlace)
    else
      (mX6_wrong q1.2.1 fault faultPlace 1).bind fun q17 =>
      some (q17.1, q17.2)).bind fun (z2 : Int32 × Int32) =>
  mX6_readRow_L24 tape size FU newValue newWeight newMany q1.1 q1.2.1 q1.2.2.1 q1.2.2.2 z2.1 z2.2
def mX6_readWeight (tape : Nat → Int32) (newWeight : Nat → Int32) (newMany : Int32) (size : Int32) (att : Int32) (place : Int32) (sort : Int32) (number : Int32) (fault : Int32) (faultPlace : Int32)  : Option ((Nat → Int32) × Int32 × Int32 × Int32 × Int32 × Int32 × Int32) :=
  (mX6_goOn tape size att place sort number fault).bind fun q1 =>
  (if ¬ fault = 0 then
    some (fault, faultPlace)
  else
    if ¬ q1.2.2.1 = 1 then
      (mX6_wrong q1.2.1 fault faultPlace 1).bind fun q10 =>
      some (q10.1, q10.2)
    else
      if q1.2.2.2 < newMany then
        some (fault, faultPlace)
      else
        (mX6_wrong q1.2.1 fault faultPlace 1).bind fun q12 =>
        some (q12.1, q12.2)).bind fun (z2 : Int32 × Int32) =>
  (mX6_goOn tape size q1.1 q1.2.1 q1.2.2.1 q1.2.2.2 z2.1).bind fun q4 =>
  (mX6_within tape size q4.1 q4.2.1 q4.2.2.1 q4.2.2.2 z2.1 z2.2 1 9).bind fun q5 =>
  if ¬ q5.2.2.2.2.2.1 = 0 then
    some (newWeight, q5.2.1, q5.2.2.1, q5.2.2.2.1, q5.2.2.2.2.1, q5.2.2.2.2.2.1, q5.2.2.2.2.2.2)
  else
    (wr newWeight 120 q1.2.2.2 q5.1).bind fun a7 =>
    some (a7, q5.2.1, q5.2.2.1, q5.2.2.2.1, q5.2.2.2.2.1, q5.2.2.2.2.2.1, q5.2.2.2.2.2.2)
def mX6_readBlock (tape : Nat → Int32) (newBlock : Int32) (hasBlock : Int32) (size : Int32) (att : Int32) (place : Int32) (sort : Int32) (number : Int32) (fault : Int32) (faultPlace : Int32)  : Option (Int32 × Int32 × Int32 × Int32 × Int32 × Int32 × Int32 × Int32) :=
  (if hasBlock = 0 then
    some (fault, faultPlace)
  else
    (mX6_wrong place fault faultPlace 3).bind fun q6 =>
    some (q6.1, q6.2)).bind fun (z1 : Int32 × Int32) =>
  (mX6_goOn tape size att place sort number z1.1).bind fun q3 =>
  (mX6_within tape size q3.1 q3.2.1 q3.2.2.1 q3.2.2.2 z1.1 z1.2 2 20).bind fun q4 =>
  some (q4.1, 1, q4.2.1, q4.2.2.1, q4.2.2.2.1, q4.2.2.2.2.1, q4.2.2.2.2.2.1, q4.2.2.2.2.2.2)
def mX6_readTies (tape : Nat → Int32) (newTies : Int32) (hasTies : Int32) (size : Int32) (att : Int32) (place : Int32) (sort : Int32) (number : Int32) (fault : Int32) (faultPlace : Int32)  : Option (Int32 × Int32 × Int32 × Int32 × Int32 × Int32 × Int32 × Int32) :=
  (if hasTies = 0 then
    some (fault, faultPlace)
  else
    (mX6_wrong place fault faultPlace 3).bind fun q18 =>
    some (q18.1, q18.2)).bind fun (z1 : Int32 × Int32) =>
  (mX6_goOn tape size att place sort number z1.1).bind fun q3 =>
  (if ¬ z1.1 = 0 then
    some (z1.1, z1.2)
  else
    if ¬ q3.2.2.1 = 0 then
      (mX6_wrong q3.2.1 z1.1 z1.2 1).bind fun q12 =>
      some (q12.1, q12.2)
    else
      if q3.2.2.2 < 0 then
        (mX6_wrong q3.2.1 z1.1 z1.2 1).bind fun q14 =>
        some (q14.1, q14.2)
      else
        if q3.2.2.2 ≤ 3 then
          some (z1.1, z1.2)
        else
          (mX6_wrong q3.2.1 z1.1 z1.2 1).bind fun q16 =>
          some (q16.1, q16.2)).bind fun (z4 : Int32 × Int32) =>
  (if ¬ z4.1 = 0 then
    some 0
  else
    some q3.2.2.2).bind fun (z6 : Int32) =>
  (mX6_goOn tape size q3.1 q3.2.1 q3.2.2.1 q3.2.2.2 z4.1).bind fun q8 =>
  some (z6, 1, q8.1, q8.2.1, q8.2.2.1, q8.2.2.2, z4.1, z4.2)
def mX6_readLine (tape : Nat → Int32) (newValue : Nat → Int32) (newWeight : Nat → Int32) (newMany : Int32) (newBlock : Int32) (newTies : Int32) (newLines : Int32) (hasBlock : Int32) (hasTies : Int32) (size : Int32) (att : Int32) (place : Int32) (sort : Int32) (number : Int32) (fault : Int32) (faultPlace : Int32)  : Option ((Nat → Int32) × (Nat → Int32) × Int32 × Int32 × Int32 × Int32 × Int32 × Int32 × Int32 × Int32 × Int32 × Int32 × Int32 × Int32) :=
  (if ¬ sort = 0 then
    some (-1)
  else
    some number).bind fun (z1 : Int32) =>
  (if ¬ z1 = 4 then
    if ¬ z1 = 5 then
      if ¬ z1 = 6 then
        if ¬ z1 = 7 then
          (mX6_wrong place fault faultPlace 1).bind fun q15 =>
          some (newValue, newWeight, newMany, newBlock, newTies, hasBlock, hasTies, att, place, sort, number, q15.1, q15.2)
        else
          (mX6_readTies tape newTies hasTies size att place sort number fault faultPlace).bind fun q16 =>
          some (newValue, newWeight, newMany, newBlock, q16.1, hasBlock, q16.2.1, q16.2.2.1, q16.2.2.2.1, q16.2.2.2.2.1, q16.2.2.2.2.2.1, q16.2.2.2.2.2.2.1, q16.2.2.2.2.2.2.2)
      else
        (mX6_readBlock tape newBlock hasBlock size att place sort number fault faultPlace).bind fun q17 =>
        some (newValue, newWeight, newMany, q17.1, newTies, q17.2.1, hasTies, q17.2.2.1, q17.2.2.2.1, q17.2.2.2.2.1, q17.2.2.2.2.2.1, q17.2.2.2.2.2.2.1, q17.2.2.2.2.2.2.2)
    else
      (mX6_readWeight tape newWeight newMany size att place sort number fault faultPlace).bind fun q18 =>
      some (newValue, q18.1, newMany, newBlock, newTies, hasBlock, hasTies, q18.2.1, q18.2.2.1, q18.2.2.2.1, q18.2.2.2.2.1, q18.2.2.2.2.2.1, q18.2.2.2.2.2.2)
  else
    (mX6_readRow tape newValue newWeight newMany size att place sort number fault faultPlace).bind fun q19 =>
    some (q19.1, q19.2.1, q19.2.2.1, newBlock, newTies, hasBlock, hasTies, q19.2.2.2.1, q19.2.2.2.2.1, q19.2.2.2.2.2.1, q19.2.2.2.2.2.2.1, q19.2.2.2.2.2.2.2.1, q19.2.2.2.2.2.2.2.2)).bind fun (z3 : (Nat → Int32) × (Nat → Int32) × Int32 × Int32 × Int32 × Int32 × Int32 × Int32 × Int32 × Int32 × Int32 × Int32 × Int32) =>
  (if ¬ z3.2.2.2.2.2.2.2.2.2.2.2.1 = 0 then
    some (z3.2.2.2.2.2.2.2.2.2.2.2.1, z3.2.2.2.2.2.2.2.2.2.2.2.2)
  else
    if z3.2.2.2.2.2.2.2.2.2.1 = 2 then
      some (z3.2.2.2.2.2.2.2.2.2.2.2.1, z3.2.2.2.2.2.2.2.2.2.2.2.2)
    else
      (mX6_wrong z3.2.2.2.2.2.2.2.2.1 z3.2.2.2.2.2.2.2.2.2.2.2.1 z3.2.2.2.2.2.2.2.2.2.2.2.2 1).bind fun q10 =>
      some (q10.1, q10.2)).bind fun (z5 : Int32 × Int32) =>
  (mX6_goOn tape size z3.2.2.2.2.2.2.2.1 z3.2.2.2.2.2.2.2.2.1 z3.2.2.2.2.2.2.2.2.2.1 z3.2.2.2.2.2.2.2.2.2.2.1 z5.1).bind fun q7 =>
  some (z3.1, z3.2.1, z3.2.2.1, z3.2.2.2.1, z3.2.2.2.2.1, (newLines + 1), z3.2.2.2.2.2.1, z3.2.2.2.2.2.2.1, q7.1, q7.2.1, q7.2.2.1, q7.2.2.2, z5.1, z5.2)
def mX6_text_L70 (tape : Nat → Int32) (size : Int32) : Nat → (Nat → Int32) → (Nat → Int32) → Int32 → Int32 → Int32 → Int32 → Int32 → Int32 → Int32 → Int32 → Int32 → Int32 → Int32 → Int32 → Option ((Nat → Int32) × (Nat → Int32) × Int32 × Int32 × Int32 × Int32 × Int32 × Int32 × Int32 × Int32 × Int32 × Int32 × Int32 × Int32)
  | 0, _, _, _, _, _, _, _, _, _, _, _, _, _, _ => none
  | n + 1, newValue, newWeight, newMany, newBlock, newTies, newLines, hasBlock, hasTies, att, place, sort, number, fault, faultPlace =>
    if ¬ fault = 0 then
      some (newValue, newWeight, newMany, newBlock, newTies, newLines, hasBlock, hasTies, att, place, sort, number, fault, faultPlace)
    else
      if sort = 3 then
        some (newValue, newWeight, newMany, newBlock, newTies, newLines, hasBlock, hasTies, att, place, sort, number, fault, faultPlace)
      else
        (mX6_readLine tape newValue newWeight newMany newBlock newTies newLines hasBlock hasTies size att place sort number fault faultPlace).bind fun q7 =>
        mX6_text_L70 tape size n q7.1 q7.2.1 q7.2.2.1 q7.2.2.2.1 q7.2.2.2.2.1 q7.2.2.2.2.2.1 q7.2.2.2.2.2.2.1 q7.2.2.2.2.2.2.2.1 q7.2.2.2.2.2.2.2.2.1 q7.2.2.2.2.2.2.2.2.2.1 q7.2.2.2.2.2.2.2.2.2.2.1 q7.2.2.2.2.2.2.2.2.2.2.2.1 q7.2.2.2.2.2.2.2.2.2.2.2.2.1 q7.2.2.2.2.2.2.2.2.2.2.2.2.2
def mX6_text_L143 (many : Int32) (newValue : Nat → Int32) (newWeight : Nat → Int32) : Nat → Int32 → (Nat → Int32) → (Nat → Int32) → Option ((Nat → Int32) × (Nat → Int32))
  | 0, _, _, _ => none
  | n + 1, x2, value, weight =>
    if many ≤ x2 then
      some (value, weight)
    else
      (rd newValue 120 x2).bind fun v14 =>
      (wr value 120 x2 v14).bind fun a15 =>
      (rd newWeight 120 x2).bind fun v16 =>
      (wr weight 120 x2 v16).bind fun a17 =>
      mX6_text_L143 many newValue newWeight n (x2 + 1) a15 a17
def mX6_text (thrown : Int32) (tape : Nat → Int32) (taped : Int32) (value : Nat → Int32) (weight : Nat → Int32) (many : Int32) (block : Int32) (ties : Int32) (lines : Int32) (undos : Int32) (fresh : Int32) (newValue : Nat → Int32) (newWeight : Nat → Int32) (newMany : Int32) (newBlock : Int32) (newTies : Int32) (newLines : Int32) (hasBlock : Int32) (hasTies : Int32) (size : Int32) (att : Int32) (place : Int32) (sort : Int32) (number : Int32) (fault : Int32) (faultPlace : Int32) (lastFault : Int32) (lastPlace : Int32) (x1 : Int32) : Option (Int32 × Int32 × Int32 × (Nat → Int32) × (Nat → Int32) × Int32 × Int32 × Int32 × Int32 × Int32 × Int32 × (Nat → Int32) × (Nat → Int32) × Int32 × Int32 × Int32 × Int32 × Int32 × Int32 × Int32 × Int32 × Int32 × Int32 × Int32 × Int32 × Int32 × Int32 × Int32) :=
  if x1 < 0 then
    some ((-2), 0, taped, value, weight, many, block, ties, lines, undos, fresh, newValue, newWeight, newMany, newBlock, newTies, newLines, hasBlock, hasTies, size, att, place, sort, number, fault, faultPlace, lastFault, lastPlace)
  else
    if x1 ≤ taped then
      (mX6_token tape x1 0 place sort number).bind fun q3 =>
      (mX6_text_L70 tape x1 FU newValue newWeight 0 8 0 0 0 0 q3.1 q3.2.1 q3.2.2.1 q3.2.2.2 0 faultPlace).bind fun z8 =>
      (if ¬ z8.2.2.2.2.2.2.2.2.2.2.2.2.1 = 0 then
        some z8.2.2.2.2.2.2.2.2.2.2.2.2.2
      else
        some (-1)).bind fun (z9 : Int32) =>
      if z8.2.2.2.2.2.2.2.2.2.2.2.2.1 = 0 then
        (mX6_text_L143 z8.2.2.1 z8.1 z8.2.1 FU 0 value weight).bind fun z18 =>
        some (z8.2.2.2.2.2.1, 0, 0, z18.1, z18.2, z8.2.2.1, z8.2.2.2.1, z8.2.2.2.2.1, z8.2.2.2.2.2.1, 0, (-2), z8.1, z8.2.1, z8.2.2.1, z8.2.2.2.1, z8.2.2.2.2.1, z8.2.2.2.2.2.1, z8.2.2.2.2.2.2.1, z8.2.2.2.2.2.2.2.1, x1, z8.2.2.2.2.2.2.2.2.1, z8.2.2.2.2.2.2.2.2.2.1, z8.2.2.2.2.2.2.2.2.2.2.1, z8.2.2.2.2.2.2.2.2.2.2.2.1, z8.2.2.2.2.2.2.2.2.2.2.2.2.1, z8.2.2.2.2.2.2.2.2.2.2.2.2.2, z8.2.2.2.2.2.2.2.2.2.2.2.2.1, z9)
      else
        some ((-1), 0, 0, value, weight, many, block, ties, lines, undos, fresh, z8.1, z8.2.1, z8.2.2.1, z8.2.2.2.1, z8.2.2.2.2.1, z8.2.2.2.2.2.1, z8.2.2.2.2.2.2.1, z8.2.2.2.2.2.2.2.1, x1, z8.2.2.2.2.2.2.2.2.1, z8.2.2.2.2.2.2.2.2.2.1, z8.2.2.2.2.2.2.2.2.2.2.1, z8.2.2.2.2.2.2.2.2.2.2.2.1, z8.2.2.2.2.2.2.2.2.2.2.2.2.1, z8.2.2.2.2.2.2.2.2.2.2.2.2.2, z8.2.2.2.2.2.2.2.2.2.2.2.2.1, z9)
    else
      some ((-2), 0, taped, value, weight, many, block, ties, lines, undos, fresh, newValue, newWeight, newMany, newBlock, newTies, newLines, hasBlock, hasTies, size, att, place, sort, number, fault, faultPlace, lastFault, lastPlace)
def mX6_fault (thrown : Int32) (lastFault : Int32) (lastPlace : Int32) (x1 : Int32) : Option (Int32 × Int32) :=
  if ¬ x1 = 0 then
    if ¬ x1 = 1 then
      some ((-1), 0)
    else
      some (lastPlace, 0)
  else
    some (lastFault, 0)
def mX6_isPlace (many : Int32) (x1 : Int32) : Option (Int32) :=
  if x1 < 0 then
    some 0
  else
    if many ≤ x1 then
      some 0
    else
      some 1
def mX6_isSpan (many : Int32) (x1 : Int32) (x2 : Int32) : Option (Int32) :=
  if x1 < 0 then
    some 0
  else
    if x2 < x1 then
      some 0
    else
      if many ≤ x2 then
        some 0
      else
        some 1
def mX6_isValue  (x0 : Int32) : Option (Int32) :=
  if x0 < 0 then
    some 0
  else
    if 1000 ≤ x0 then
      some 0
    else
      some 1
def mX6_blocks (many : Int32) (block : Int32)  : Option (Int32) :=
  (idv ((many + block) - 1) block).bind fun v1 =>
  some v1
def mX6_nextTo_L4 (value : Nat → Int32) (many : Int32) (x1 : Int32) (x2 : Int32) : Nat → Int32 → Option (Int32)
  | 0, _ => none
  | n + 1, x3 =>
    (mX6_isPlace many x3).bind fun q2 =>
    if q2 = 0 then
      some x3
    else
      (rd value 120 x3).bind fun v4 =>
      (rd value 120 x1).bind fun v5 =>
      if v4 = v5 then
        some x3
      else
        mX6_nextTo_L4 value many x1 x2 n (x3 + x2)
def mX6_nextTo (value : Nat → Int32) (many : Int32) (x1 : Int32) (x2 : Int32) : Option (Int32) :=
  (mX6_nextTo_L4 value many x1 x2 FU (x1 + x2)).bind fun z7 =>
  (mX6_isPlace many z7).bind fun q8 =>
  if q8 = 0 then
    some (-2)
  else
    some z7
def mX6_timesIn_L6 (value : Nat → Int32) (x2 : Int32) (x3 : Int32) : Nat → Int32 → Int32 → Option (Int32)
  | 0, _, _ => none
  | n + 1, x4, x5 =>
    if x2 < x5 then
      some x4
    else
      (rd value 120 x5).bind fun v3 =>
      if ¬ v3 = x3 then
        mX6_timesIn_L6 value x2 x3 n (x4 + 0) (x5 + 1)
      else
        mX6_timesIn_L6 value x2 x3 n (x4 + 1) (x5 + 1)
def mX6_timesIn (value : Nat → Int32) (x1 : Int32) (x2 : Int32) (x3 : Int32) : Option (Int32) :=
  (mX6_timesIn_L6 value x2 x3 FU 0 x1).bind fun z5 =>
  some z5
def mX6_place (thrown : Int32) (value : Nat → Int32) (weight : Nat → Int32) (many : Int32) (block : Int32) (x1 : Int32) (x2 : Int32) : Option (Int32 × Int32) :=
  (mX6_isPlace many x1).bind fun q1 =>
  if ¬ q1 = 0 then
    if x2 = 0 then
      (rd value 120 x1).bind fun v3 =>
      some (v3, 0)
    else if x2 = 1 then
      (rd weight 120 x1).bind fun v5 =>
      some (v5, 0)
    else if x2 = 2 then
      (idv x1 block).bind fun v7 =>
      some (v7, 0)
    else if x2 = 3 then
      (rd value 120 x1).bind fun v9 =>
      (mX6_timesIn value 0 (x1 - 1) v9).bind fun q10 =>
      some (q10, 0)
    else if x2 = 4 then
      (mX6_nextTo value many x1 1).bind fun q12 =>
      some (q12, 0)
    else if x2 = 5 then
      (mX6_nextTo value many x1 (-1)).bind fun q14 =>
      some (q14, 0)
    else 
      some (0, 2)
  else
    some (0, 1)
def mX6_begins_L10 (value : Nat → Int32) (weight : Nat → Int32) (many : Int32) : Nat → Int32 → (Nat → Int32) → (Nat → Int32) → Option ((Nat → Int32) × (Nat → Int32))
  | 0, _, _, _ => none
  | n + 1, x1, toValue, toWeight =>
    if many ≤ x1 then
      some (toValue, toWeight)
    else
      (rd value 120 x1).bind fun v3 =>
      (wr toValue 121 x1 v3).bind fun a4 =>
      (rd weight 120 x1).bind fun v5 =>
      (wr toWeight 121 x1 v5).bind fun a6 =>
      mX6_begins_L10 value weight many n (x1 + 1) a4 a6
def mX6_begins (value : Nat → Int32) (weight : Nat → Int32) (many : Int32) (toValue : Nat → Int32) (toWeight : Nat → Int32) (toMany : Int32)  : Option ((Nat → Int32) × (Nat → Int32) × Int32) :=
  (mX6_begins_L10 value weight many FU 0 toValue toWeight).bind fun z7 =>
  some (z7.1, z7.2, many)
def mX6_others_L4 (value : Nat → Int32) (many : Int32) (toValue : Nat → Int32) : Nat → Int32 → Int32 → Option (Int32)
  | 0, _, _ => none
  | n + 1, x1, x2 =>
    if many ≤ x2 then
      some x1
    else
      (rd toValue 121 x2).bind fun v3 =>
      (rd value 120 x2).bind fun v4 =>
      if ¬ v3 = v4 then
        mX6_others_L4 value many toValue n (x1 + 1) (x2 + 1)
      else
        mX6_others_L4 value many toValue n (x1 + 0) (x2 + 1)
def mX6_others (value : Nat → Int32) (many : Int32) (toValue : Nat → Int32)  : Option (Int32) :=
  (mX6_others_L4 value many toValue FU 0 0).bind fun z6 =>
  some z6
def mX6_isOther_L15 (value : Nat → Int32) (weight : Nat → Int32) (many : Int32) (toValue : Nat → Int32) (toWeight : Nat → Int32) : Nat → Int32 → Option (Int32)
  | 0, _ => none
  | n + 1, x1 =>
    if many ≤ x1 then
      some 0
    else
      (rd toValue 121 x1).bind fun v4 =>
      (rd value 120 x1).bind fun v5 =>
      if ¬ v4 = v5 then
        some 1
      else
        (rd toWeight 121 x1).bind fun v7 =>
        (rd weight 120 x1).bind fun v8 =>
        if v7 = v8 then
          mX6_isOther_L15 value weight many toValue toWeight n (x1 + 1)
        else
          some 1
def mX6_isOther (value : Nat → Int32) (weight : Nat → Int32) (many : Int32) (toValue : Nat → Int32) (toWeight : Nat → Int32) (toMany : Int32)  : Option (Int32) :=
  if toMany = many then
    mX6_isOther_L15 value weight many toValue toWeight FU 0
  else
    some 1
def mX6_placesOf (block : Int32) (x1 : Int32) (x2 : Int32) : Option (Int32) :=
  if (x2 - (block * x1)) ≤ block then
    if 0 ≤ (x2 - (block * x1)) then
      some (x2 - (block * x1))
    else
      some 0
  else
    some block
def mX6_isFresh_L30 (value : Nat → Int32) (many : Int32) (block : Int32) (toValue : Nat → Int32) (toMany : Int32) (x1 : Int32) : Nat → Int32 → Option (Int32)
  | 0, _ => none
  | n + 1, x2 =>
    if ((block * x1) + block) ≤ x2 then
      some 0
    else
      if toMany ≤ x2 then
        some 0
      else
        if many ≤ x2 then
          some 1
        else
          (rd toValue 121 x2).bind fun v8 =>
          (rd value 120 x2).bind fun v9 =>
          if v8 = v9 then
            mX6_isFresh_L30 value many block toValue toMany x1 n (x2 + 1)
          else
            some 1
def mX6_isFresh (value : Nat → Int32) (many : Int32) (block : Int32) (toValue : Nat → Int32) (toMany : Int32) (x1 : Int32) : Option (Int32) :=
  (mX6_placesOf block x1 toMany).bind fun q1 =>
  (mX6_placesOf block x1 many).bind fun q2 =>
  if q2 ≤ q1 then
    mX6_isFresh_L30 value many block toValue toMany x1 FU (block * x1)
  else
    some 1
def mX6_freshPairs_L32 (value : Nat → Int32) (many : Int32) (block : Int32) (toValue : Nat → Int32) (toMany : Int32) (x1 : Int32) : Nat → Int32 → Int32 → Int32 → Option (Int32)
  | 0, _, _, _ => none
  | n + 1, x2, x4, x5 =>
    if x1 ≤ x5 then
      some x2
    else
      (if ¬ x4 = 0 then
        some 1
      else
        (mX6_isFresh value many block toValue toMany x5).bind fun q10 =>
        if q10 = 0 then
          some 0
        else
          some 1).bind fun (z6 : Int32) =>
      if z6 = 0 then
        mX6_freshPairs_L32 value many block toValue toMany x1 n (x2 + 0) z6 (x5 + 1)
      else
        mX6_freshPairs_L32 value many block toValue toMany x1 n (x2 + 1) z6 (x5 + 1)
def mX6_freshPairs_L21 (value : Nat → Int32) (many : Int32) (block : Int32) (toValue : Nat → Int32) (toMany : Int32) (x1 : Int32) : Nat → Int32 → Int32 → Option (Int32)
  | 0, _, _ => none
  | n + 1, x2, x3 =>
    if x1 ≤ x3 then
      some x2
    else
      (mX6_freshPairs_L32 value many block toValue toMany x1 FU x2 0 x3).bind fun z12 =>
      mX6_freshPairs_L21 value many block toValue toMany x1 n z12 (x3 + 1)
def mX6_freshPairs (value : Nat → Int32) (many : Int32) (block : Int32) (toValue : Nat → Int32) (toMany : Int32)  : Option (Int32) :=
  (idv ((toMany + block) - 1) block).bind fun v1 =>
  (mX6_freshPairs_L21 value many block toValue toMany v1 FU 0 0).bind fun z13 =>
  some z13
def mX6_becomes_L18 (many : Int32) (toValue : Nat → Int32) (toWeight : Nat → Int32) : Nat → Int32 → (Nat → Int32) → (Nat → Int32) → Option ((Nat → Int32) × (Nat → Int32))
  | 0, _, _, _ => none
  | n + 1, x1, value, weight =>
    if many ≤ x1 then
      some (value, weight)
    else
      (rd toValue 121 x1).bind fun v4 =>
      (wr value 120 x1 v4).bind fun a5 =>
      (rd toWeight 121 x1).bind fun v6 =>
      (wr weight 120 x1 v6).bind fun a7 =>
      mX6_becomes_L18 many toValue toWeight n (x1 + 1) a5 a7
def mX6_becomes (value : Nat → Int32) (weight : Nat → Int32) (many : Int32) (block : Int32) (fresh : Int32) (toValue : Nat → Int32) (toWeight : Nat → Int32) (toMany : Int32)  : Option ((Nat → Int32) × (Nat → Int32) × Int32 × Int32) :=
  (mX6_freshPairs value many block toValue toMany).bind fun q1 =>
  (mX6_becomes_L18 toMany toValue toWeight FU 0 value weight).bind fun z8 =>
  some (z8.1, z8.2, toMany, q1)
def mX6_copies_L2 (x1 : Int32) (x2 : Int32) : Nat → Int32 → (Nat → Int32) → (Nat → Int32) → Option ((Nat → Int32) × (Nat → Int32))
  | 0, _, _, _ => none
  | n + 1, x3, pastValue, pastWeight =>
    if 120 ≤ x3 then
      some (pastValue, pastWeight)
    else
      (rd pastValue 1440 ((120 * x1) + x3)).bind fun v3 =>
      (wr pastValue 1440 ((120 * x2) + x3) v3).bind fun a4 =>
      (rd pastWeight 1440 ((120 * x1) + x3)).bind fun v5 =>
      (wr pastWeight 1440 ((120 * x2) + x3) v5).bind fun a6 =>
      mX6_copies_L2 x1 x2 n (x3 + 1) a4 a6
def mX6_copies (pastValue : Nat → Int32) (pastWeight : Nat → Int32) (pastMany : Nat → Int32) (x1 : Int32) (x2 : Int32) : Option ((Nat → Int32) × (Nat → Int32) × (Nat → Int32)) :=
  (mX6_copies_L2 x1 x2 FU 0 pastValue pastWeight).bind fun z7 =>
  (rd pastMany 12 x1).bind fun v8 =>
  (wr pastMany 12 x2 v8).bind fun a9 =>
  some (z7.1, z7.2, a9)
def mX6_edits_L51 (value : Nat → Int32) (weight : Nat → Int32) (many : Int32) (undos : Int32) : Nat → Int32 → (Nat → Int32) → (Nat → Int32) → Option ((Nat → Int32) × (Nat → Int32))
  | 0, _, _, _ => none
  | n + 1, x1, pastValue, pastWeight =>
    if many ≤ x1 then
      some (pastValue, pastWeight)
    else
      (rd value 120 x1).bind fun v6 =>
      (wr pastValue 1440 ((120 * undos) + x1) v6).bind fun a7 =>
      (rd weight 120 x1).bind fun v8 =>
      (wr pastWeight 1440 ((120 * undos) + x1) v8).bind fun a9 =>
      mX6_edits_L51 value weight many undos n (x1 + 1) a7 a9
def mX6_edits_L19  : Nat → Int32 → (Nat → Int32) → (Nat → Int32) → (Nat → Int32) → Option ((Nat → Int32) × (Nat → Int32) × (Nat → Int32))
  | 0, _, _, _, _ => none
  | n + 1, x1, pastValue, pastWeight, pastMany =>
    if 12 ≤ x1 then
      some (pastValue, pastWeight, pastMany)
    else
      (mX6_copies pastValue pastWeight pastMany x1 (x1 - 1)).bind fun q15 =>
      mX6_edits_L19  n (x1 + 1) q15.1 q15.2.1 q15.2.2
def mX6_edits (value : Nat → Int32) (weight : Nat → Int32) (many : Int32) (block : Int32) (pastValue : Nat → Int32) (pastWeight : Nat → Int32) (pastMany : Nat → Int32) (undos : Int32) (fresh : Int32) (toValue : Nat → Int32) (toWeight : Nat → Int32) (toMany : Int32)  : Option ((Nat → Int32) × (Nat → Int32) × Int32 × (Nat → Int32) × (Nat → Int32) × (Nat → Int32) × Int32 × Int32) :=
  (mX6_isOther value weight many toValue toWeight toMany).bind fun q1 =>
  if ¬ q1 = 0 then
    if ¬ undos = 12 then
      (mX6_edits_L51 value weight many undos FU 0 pastValue pastWeight).bind fun z10 =>
      (wr pastMany 12 undos many).bind fun a11 =>
      (mX6_becomes value weight many block fresh toValue toWeight toMany).bind fun q12 =>
      some (q12.1, q12.2.1, q12.2.2.1, z10.1, z10.2, a11, (undos + 1), q12.2.2.2)
    else
      (mX6_edits_L19  FU 1 pastValue pastWeight pastMany).bind fun z16 =>
      (mX6_edits_L51 value weight many (undos - 1) FU 0 z16.1 z16.2.1).bind fun z23 =>
      (wr z16.2.2 12 (undos - 1) many).bind fun a24 =>
      (mX6_becomes value weight many block fresh toValue toWeight toMany).bind fun q25 =>
      some (q25.1, q25.2.1, q25.2.2.1, z23.1, z23.2, a24, ((undos - 1) + 1), q25.2.2.2)
  else
    some (value, weight, many, pastValue, pastWeight, pastMany, undos, fresh)
def mX6_undo_L39 (pastValue : Nat → Int32) (pastWeight : Nat → Int32) (undos : Int32) (toMany : Int32) : Nat → Int32 → (Nat → Int32) → (Nat → Int32) → Option ((Nat → Int32) × (Nat → Int32))
  | 0, _, _, _ => none
  | n + 1, x1, toValue, toWeight =>
    if toMany ≤ x1 then
      some (toValue, toWeight)
    else
      (rd pastValue 1440 ((120 * undos) + x1)).bind fun v5 =>
      (wr toValue 121 x1 v5).bind fun a6 =>
      (rd pastWeight 1440 ((120 * undos) + x1)).bind fun v7 =>
      (wr toWeight 121 x1 v7).bind fun a8 =>
      mX6_undo_L39 pastValue pastWeight undos toMany n (x1 + 1) a6 a8
def mX6_undo (thrown : Int32) (value : Nat → Int32) (weight : Nat → Int32) (many : Int32) (block : Int32) (pastValue : Nat → Int32) (pastWeight : Nat → Int32) (pastMany : Nat → Int32) (undos : Int32) (fresh : Int32) (toValue : Nat → Int32) (toWeight : Nat → Int32) (toMany : Int32)  : Option (Int32 × Int32 × (Nat → Int32) × (Nat → Int32) × Int32 × Int32 × Int32 × (Nat → Int32) × (Nat → Int32) × Int32) :=
  if ¬ undos = 0 then
    (rd pastMany 12 (undos - 1)).bind fun v2 =>
    (mX6_undo_L39 pastValue pastWeight (undos - 1) v2 FU 0 toValue toWeight).bind fun z9 =>
    (mX6_becomes value weight many block fresh z9.1 z9.2 v2).bind fun q10 =>
    some ((undos - 1), 0, q10.1, q10.2.1, q10.2.2.1, (undos - 1), q10.2.2.2, z9.1, z9.2, v2)
  else
    some ((-1), 0, value, weight, many, undos, fresh, toValue, toWeight, toMany)
def mX6_set (thrown : Int32) (value : Nat → Int32) (weight : Nat → Int32) (many : Int32) (block : Int32) (pastValue : Nat → Int32) (pastWeight : Nat → Int32) (pastMany : Nat → Int32) (undos : Int32) (fresh : Int32) (toValue : Nat → Int32) (toWeight : Nat → Int32) (toMany : Int32) (x1 : Int32) (x2 : Int32) : Option (Int32 × Int32 × (Nat → Int32) × (Nat → Int32) × Int32 × (Nat → Int32) × (Nat → Int32) × (Nat → Int32) × Int32 × Int32 × (Nat → Int32) × (Nat → Int32) × Int32) :=
  (mX6_isPlace many x1).bind fun q1 =>
  if q1 = 0 then
    some ((-1), 0, value, weight, many, pastValue, pastWeight, pastMany, undos, fresh, toValue, toWeight, toMany)
  else
    (mX6_isValue x2).bind fun q3 =>
    if ¬ q3 = 0 then
      (rd value 120 x1).bind fun v5 =>
      (mX6_begins value weight many toValue toWeight toMany).bind fun q6 =>
      (wr q6.1 121 x1 x2).bind fun a7 =>
      (mX6_edits value weight many block pastValue pastWeight pastMany undos fresh a7 q6.2.1 q6.2.2).bind fun q8 =>
      some (v5, 0, q8.1, q8.2.1, q8.2.2.1, q8.2.2.2.1, q8.2.2.2.2.1, q8.2.2.2.2.2.1, q8.2.2.2.2.2.2.1, q8.2.2.2.2.2.2.2, a7, q6.2.1, q6.2.2)
    else
      some ((-1), 0, value, weight, many, pastValue, pastWeight, pastMany, undos, fresh, toValue, toWeight, toMany)
def mX6_weigh (thrown : Int32) (value : Nat → Int32) (weight : Nat → Int32) (many : Int32) (block : Int32) (pastValue : Nat → Int32) (pastWeight : Nat → Int32) (pastMany : Nat → Int32) (undos : Int32) (fresh : Int32) (toValue : Nat → Int32) (toWeight : Nat → Int32) (toMany : Int32) (x1 : Int32) (x2 : Int32) : Option (Int32 × Int32 × (Nat → Int32) × (Nat → Int32) × Int32 × (Nat → Int32) × (Nat → Int32) × (Nat → Int32) × Int32 × Int32 × (Nat → Int32) × (Nat → Int32) × Int32) :=
  (mX6_isPlace many x1).bind fun q1 =>
  if q1 = 0 then
    some ((-1), 0, value, weight, many, pastValue, pastWeight, pastMany, undos, fresh, toValue, toWeight, toMany)
  else
    if x2 < 1 then
      some ((-1), 0, value, weight, many, pastValue, pastWeight, pastMany, undos, fresh, toValue, toWeight, toMany)
    else
      if x2 ≤ 9 then
        (rd weight 120 x1).bind fun v5 =>
        (mX6_begins value weight many toValue toWeight toMany).bind fun q6 =>
        (wr q6.2.1 121 x1 x2).bind fun a7 =>
        (mX6_edits value weight many block pastValue pastWeight pastMany undos fresh q6.1 a7 q6.2.2).bind fun q8 =>
        some (v5, 0, q8.1, q8.2.1, q8.2.2.1, q8.2.2.2.1, q8.2.2.2.2.1, q8.2.2.2.2.2.1, q8.2.2.2.2.2.2.1, q8.2.2.2.2.2.2.2, q6.1, a7, q6.2.2)
      else
        some ((-1), 0, value, weight, many, pastValue, pastWeight, pastMany, undos, fresh, toValue, toWeight, toMany)
def mX6_insert_L44 (x1 : Int32) : Nat → Int32 → (Nat → Int32) → (Nat → Int32) → Option ((Nat → Int32) × (Nat → Int32))
  | 0, _, _, _ => none
  | n + 1, x3, toValue, toWeight =>
    if x3 ≤ x1 then
      some (toValue, toWeight)
    else
      (rd toValue 121 (x3 - 1)).bind fun v9 =>
      (wr toValue 121 x3 v9).bind fun a10 =>
      (rd toWeight 121 (x3 - 1)).bind fun v11 =>
      (wr toWeight 121 x3 v11).bind fun a12 =>
      mX6_insert_L44 x1 n (x3 + (-1)) a10 a12
def mX6_insert (thrown : Int32) (value : Nat → Int32) (weight : Nat → Int32) (many : Int32) (block : Int32) (pastValue : Nat → Int32) (pastWeight : Nat → Int32) (pastMany : Nat → Int32) (undos : Int32) (fresh : Int32) (toValue : Nat → Int32) (toWeight : Nat → Int32) (toMany : Int32) (x1 : Int32) (x2 : Int32) : Option (Int32 × Int32 × (Nat → Int32) × (Nat → Int32) × Int32 × (Nat → Int32) × (Nat → Int32) × (Nat → Int32) × Int32 × Int32 × (Nat → Int32) × (Nat → Int32) × Int32) :=
  if x1 < 0 then
    some ((-1), 0, value, weight, many, pastValue, pastWeight, pastMany, undos, fresh, toValue, toWeight, toMany)
  else
    if many < x1 then
      some ((-1), 0, value, weight, many, pastValue, pastWeight, pastMany, undos, fresh, toValue, toWeight, toMany)
    else
      (mX6_isValue x2).bind fun q3 =>
      if q3 = 0 then
        some ((-1), 0, value, weight, many, pastValue, pastWeight, pastMany, undos, fresh, toValue, toWeight, toMany)
      else
        if ¬ many = 120 then
          (mX6_begins value weight many toValue toWeight toMany).bind fun q6 =>
          (mX6_insert_L44 x1 FU many q6.1 q6.2.1).bind fun z13 =>
          (wr z13.1 121 x1 x2).bind fun a14 =>
          (wr z13.2 121 x1 1).bind fun a15 =>
          (mX6_edits value weight many block pastValue pastWeight pastMany undos fresh a14 a15 (q6.2.2 + 1)).bind fun q16 =>
          some (q16.2.2.1, 0, q16.1, q16.2.1, q16.2.2.1, q16.2.2.2.1, q16.2.2.2.2.1, q16.2.2.2.2.2.1, q16.2.2.2.2.2.2.1, q16.2.2.2.2.2.2.2, a14, a15, (q6.2.2 + 1))
        else
          some ((-1), 0, value, weight, many, pastValue, pastWeight, pastMany, undos, fresh, toValue, toWeight, toMany)
def mX6_remove_L28 (many : Int32) : Nat → Int32 → (Nat → Int32) → (Nat → Int32) → Option ((Nat → Int32) × (Nat → Int32))
  | 0, _, _, _ => none
  | n + 1, x3, toValue, toWeight =>
    if many ≤ (x3 + 1) then
      some (toValue, toWeight)
    else
      (rd toValue 121 (x3 + 1)).bind fun v7 =>
      (wr toValue 121 x3 v7).bind fun a8 =>
      (rd toWeight 121 (x3 + 1)).bind fun v9 =>
      (wr toWeight 121 x3 v9).bind fun a10 =>
      mX6_remove_L28 many n (x3 + 1) a8 a10
def mX6_remove (thrown : Int32) (value : Nat → Int32) (weight : Nat → Int32) (many : Int32) (block : Int32) (pastValue : Nat → Int32) (pastWeight : Nat → Int32) (pastMany : Nat → Int32) (undos : Int32) (fresh : Int32) (toValue : Nat → Int32) (toWeight : Nat → Int32) (toMany : Int32) (x1 : Int32) : Option (Int32 × Int32 × (Nat → Int32) × (Nat → Int32) × Int32 × (Nat → Int32) × (Nat → Int32) × (Nat → Int32) × Int32 × Int32 × (Nat → Int32) × (Nat → Int32) × Int32) :=
  (mX6_isPlace many x1).bind fun q1 =>
  if ¬ q1 = 0 then
    (rd value 120 x1).bind fun v3 =>
    (mX6_begins value weight many toValue toWeight toMany).bind fun q4 =>
    (mX6_remove_L28 many FU x1 q4.1 q4.2.1).bind fun z11 =>
    (mX6_edits value weight many block pastValue pastWeight pastMany undos fresh z11.1 z11.2 (q4.2.2 - 1)).bind fun q12 =>
    some (v3, 0, q12.1, q12.2.1, q12.2.2.1, q12.2.2.2.1, q12.2.2.2.2.1, q12.2.2.2.2.2.1, q12.2.2.2.2.2.2.1, q12.2.2.2.2.2.2.2, z11.1, z11.2, (q4.2.2 - 1))
  else
    some ((-1), 0, value, weight, many, pastValue, pastWeight, pastMany, undos, fresh, toValue, toWeight, toMany)
def mX6_done (value : Nat → Int32) (weight : Nat → Int32) (many : Int32) (block : Int32) (pastValue : Nat → Int32) (pastWeight : Nat → Int32) (pastMany : Nat → Int32) (undos : Int32) (fresh : Int32) (toValue : Nat → Int32) (toWeight : Nat → Int32) (toMany : Int32)  : Option (Int32 × (Nat → Int32) × (Nat → Int32) × Int32 × (Nat → Int32) × (Nat → Int32) × (Nat → Int32) × Int32 × Int32) :=
  (mX6_others value many toValue).bind fun q1 =>
  (mX6_edits value weight many block pastValue pastWeight pastMany undos fresh toValue toWeight toMany).bind fun q2 =>
  some (q1, q2.1, q2.2.1, q2.2.2.1, q2.2.2.2.1, q2.2.2.2.2.1, q2.2.2.2.2.2.1, q2.2.2.2.2.2.2.1, q2.2.2.2.2.2.2.2)
def mX6_fill_L30 (x2 : Int32) (x3 : Int32) : Nat → Int32 → (Nat → Int32) → Option ((Nat → Int32))
  | 0, _, _ => none
  | n + 1, x4, toValue =>
    if x2 < x4 then
      some toValue
    else
      (wr toValue 121 x4 x3).bind fun a8 =>
      mX6_fill_L30 x2 x3 n (x4 + 1) a8
def mX6_fill (thrown : Int32) (value : Nat → Int32) (weight : Nat → Int32) (many : Int32) (block : Int32) (pastValue : Nat → Int32) (pastWeight : Nat → Int32) (pastMany : Nat → Int32) (undos : Int32) (fresh : Int32) (toValue : Nat → Int32) (toWeight : Nat → Int32) (toMany : Int32) (x1 : Int32) (x2 : Int32) (x3 : Int32) : Option (Int32 × Int32 × (Nat → Int32) × (Nat → Int32) × Int32 × (Nat → Int32) × (Nat → Int32) × (Nat → Int32) × Int32 × Int32 × (Nat → Int32) × (Nat → Int32) × Int32) :=
  (mX6_isSpan many x1 x2).bind fun q1 =>
  if q1 = 0 then
    some ((-1), 0, value, weight, many, pastValue, pastWeight, pastMany, undos, fresh, toValue, toWeight, toMany)
  else
    (mX6_isValue x3).bind fun q3 =>
    if ¬ q3 = 0 then
      (mX6_begins value weight many toValue toWeight toMany).bind fun q5 =>
      (mX6_fill_L30 x2 x3 FU x1 q5.1).bind fun z9 =>
      (mX6_done value weight many block pastValue pastWeight pastMany undos fresh z9 q5.2.1 q5.2.2).bind fun q10 =>
      some (q10.1, 0, q10.2.1, q10.2.2.1, q10.2.2.2.1, q10.2.2.2.2.1, q10.2.2.2.2.2.1, q10.2.2.2.2.2.2.1, q10.2.2.2.2.2.2.2.1, q10.2.2.2.2.2.2.2.2, z9, q5.2.1, q5.2.2)
    else
      some ((-1), 0, value, weight, many, pastValue, pastWeight, pastMany, undos, fresh, toValue, toWeight, toMany)
def mX6_lies (value : Nat → Int32) (weight : Nat → Int32) (toValue : Nat → Int32) (toWeight : Nat → Int32) (x1 : Int32) (x2 : Int32) : Option ((Nat → Int32) × (Nat → Int32)) :=
  (rd value 120 x1).bind fun v1 =>
  (wr toValue 121 x2 v1).bind fun a2 =>
  (rd weight 120 x1).bind fun v3 =>
  (wr toWeight 121 x2 v3).bind fun a4 =>
  some (a2, a4)
def mX6_swap (thrown : Int32) (value : Nat → Int32) (weight : Nat → Int32) (many : Int32) (block : Int32) (pastValue : Nat → Int32) (pastWeight : Nat → Int32) (pastMany : Nat → Int32) (undos : Int32) (fresh : Int32) (toValue : Nat → Int32) (toWeight : Nat → Int32) (toMany : Int32) (x1 : Int32) (x2 : Int32) : Option (Int32 × Int32 × (Nat → Int32) × (Nat → Int32) × Int32 × (Nat → Int32) × (Nat → Int32) × (Nat → Int32) × Int32 × Int32 × (Nat → Int32) × (Nat → Int32) × Int32) :=
  (mX6_isPlace many x1).bind fun q1 =>
  if q1 = 0 then
    some (0, 0, value, weight, many, pastValue, pastWeight, pastMany, undos, fresh, toValue, toWeight, toMany)
  else
    (mX6_isPlace many x2).bind fun q3 =>
    if q3 = 0 then
      some (0, 0, value, weight, many, pastValue, pastWeight, pastMany, undos, fresh, toValue, toWeight, toMany)
    else
      if ¬ x1 = x2 then
        (mX6_begins value weight many toValue toWeight toMany).bind fun q6 =>
        (mX6_lies value weight q6.1 q6.2.1 x1 x2).bind fun q7 =>
        (mX6_lies value weight q7.1 q7.2 x2 x1).bind fun q8 =>
        (mX6_edits value weight many block pastValue pastWeight pastMany undos fresh q8.1 q8.2 q6.2.2).bind fun q9 =>
        some (1, 0, q9.1, q9.2.1, q9.2.2.1, q9.2.2.2.1, q9.2.2.2.2.1, q9.2.2.2.2.2.1, q9.2.2.2.2.2.2.1, q9.2.2.2.2.2.2.2, q8.1, q8.2, q6.2.2)
      else
        some (0, 0, value, weight, many, pastValue, pastWeight, pastMany, undos, fresh, toValue, toWeight, toMany)
def mX6_flip_L22 (value : Nat → Int32) (weight : Nat → Int32) (x1 : Int32) (x2 : Int32) : Nat → Int32 → (Nat → Int32) → (Nat → Int32) → Option ((Nat → Int32) × (Nat → Int32))
  | 0, _, _, _ => none
  | n + 1, x3, toValue, toWeight =>
    if x2 < x3 then
      some (toValue, toWeight)
    else
      (mX6_lies value weight toValue toWeight x3 ((x1 + x2) - x3)).bind fun q6 =>
      mX6_flip_L22 value weight x1 x2 n (x3 + 1) q6.1 q6.2
def mX6_flip (thrown : Int32) (value : Nat → Int32) (weight : Nat → Int32) (many : Int32) (block : Int32) (pastValue : Nat → Int32) (pastWeight : Nat → Int32) (pastMany : Nat → Int32) (undos : Int32) (fresh : Int32) (toValue : Nat → Int32) (toWeight : Nat → Int32) (toMany : Int32) (x1 : Int32) (x2 : Int32) : Option (Int32 × Int32 × (Nat → Int32) × (Nat → Int32) × Int32 × (Nat → Int32) × (Nat → Int32) × (Nat → Int32) × Int32 × Int32 × (Nat → Int32) × (Nat → Int32) × Int32) :=
  (mX6_isSpan many x1 x2).bind fun q1 =>
  if ¬ q1 = 0 then
    (mX6_begins value weight many toValue toWeight toMany).bind fun q3 =>
    (mX6_flip_L22 value weight x1 x2 FU x1 q3.1 q3.2.1).bind fun z7 =>
    (mX6_done value weight many block pastValue pastWeight pastMany undos fresh z7.1 z7.2 q3.2.2).bind fun q8 =>
    some (q8.1, 0, q8.2.1, q8.2.2.1, q8.2.2.2.1, q8.2.2.2.2.1, q8.2.2.2.2.2.1, q8.2.2.2.2.2.2.1, q8.2.2.2.2.2.2.2.1, q8.2.2.2.2.2.2.2.2, z7.1, z7.2, q3.2.2)
  else
    some ((-1), 0, value, weight, many, pastValue, pastWeight, pastMany, undos, fresh, toValue, toWeight, toMany)
def mX6_shift_L36 (value : Nat → Int32) (weight : Nat → Int32) (x1 : Int32) (x2 : Int32) (x3 : Int32) : Nat → Int32 → (Nat → Int32) → (Nat → Int32) → Option ((Nat → Int32) × (Nat → Int32))
  | 0, _, _, _ => none
  | n + 1, x4, toValue, toWeight =>
    if x2 < x4 then
      some (toValue, toWeight)
    else
      (irm ((x4 - x1) + x3) ((x2 - x1) + 1)).bind fun v8 =>
      (mX6_lies value weight toValue toWeight x4 (x1 + v8)).bind fun q9 =>
      mX6_shift_L36 value weight x1 x2 x3 n (x4 + 1) q9.1 q9.2
def mX6_shift (thrown : Int32) (value : Nat → Int32) (weight : Nat → Int32) (many : Int32) (block : Int32) (pastValue : Nat → Int32) (pastWeight : Nat → Int32) (pastMany : Nat → Int32) (undos : Int32) (fresh : Int32) (toValue : Nat → Int32) (toWeight : Nat → Int32) (toMany : Int32) (x1 : Int32) (x2 : Int32) (x3 : Int32) : Option (Int32 × Int32 × (Nat → Int32) × (Nat → Int32) × Int32 × (Nat → Int32) × (Nat → Int32) × (Nat → Int32) × Int32 × Int32 × (Nat → Int32) × (Nat → Int32) × Int32) :=
  (mX6_isSpan many x1 x2).bind fun q1 =>
  if q1 = 0 then
    some ((-1), 0, value, weight, many, pastValue, pastWeight, pastMany, undos, fresh, toValue, toWeight, toMany)
  else
    if x3 < 0 then
      some ((-1), 0, value, weight, many, pastValue, pastWeight, pastMany, undos, fresh, toValue, toWeight, toMany)
    else
      if x3 ≤ ((x2 - x1) + 1) then
        (mX6_begins value weight many toValue toWeight toMany).bind fun q5 =>
        (mX6_shift_L36 value weight x1 x2 x3 FU x1 q5.1 q5.2.1).bind fun z10 =>
        (mX6_done value weight many block pastValue pastWeight pastMany undos fresh z10.1 z10.2 q5.2.2).bind fun q11 =>
        some (q11.1, 0, q11.2.1, q11.2.2.1, q11.2.2.2.1, q11.2.2.2.2.1, q11.2.2.2.2.2.1, q11.2.2.2.2.2.2.1, q11.2.2.2.2.2.2.2.1, q11.2.2.2.2.2.2.2.2, z10.1, z10.2, q5.2.2)
      else
        some ((-1), 0, value, weight, many, pastValue, pastWeight, pastMany, undos, fresh, toValue, toWeight, toMany)
def mX6_replace_L27 (value : Nat → Int32) (many : Int32) (x1 : Int32) (x2 : Int32) : Nat → Int32 → (Nat → Int32) → Option ((Nat → Int32))
  | 0, _, _ => none
  | n + 1, x3, toValue =>
    if many ≤ x3 then
      some toValue
    else
      (rd value 120 x3).bind fun v8 =>
      if ¬ v8 = x1 then
        mX6_replace_L27 value many x1 x2 n (x3 + 1) toValue
      else
        (wr toValue 121 x3 x2).bind fun a10 =>
        mX6_replace_L27 value many x1 x2 n (x3 + 1) a10
def mX6_replace (thrown : Int32) (value : Nat → Int32) (weight : Nat → Int32) (many : Int32) (block : Int32) (pastValue : Nat → Int32) (pastWeight : Nat → Int32) (pastMany : Nat → Int32) (undos : Int32) (fresh : Int32) (toValue : Nat → Int32) (toWeight : Nat → Int32) (toMany : Int32) (x1 : Int32) (x2 : Int32) : Option (Int32 × Int32 × (Nat → Int32) × (Nat → Int32) × Int32 × (Nat → Int32) × (Nat → Int32) × (Nat → Int32) × Int32 × Int32 × (Nat → Int32) × (Nat → Int32) × Int32) :=
  (mX6_isValue x1).bind fun q1 =>
  if q1 = 0 then
    some ((-1), 0, value, weight, many, pastValue, pastWeight, pastMany, undos, fresh, toValue, toWeight, toMany)
  else
    (mX6_isValue x2).bind fun q3 =>
    if ¬ q3 = 0 then
      (mX6_begins value weight many toValue toWeight toMany).bind fun q5 =>
      (mX6_replace_L27 value many x1 x2 FU 0 q5.1).bind fun z11 =>
      (mX6_done value weight many block pastValue pastWeight pastMany undos fresh z11 q5.2.1 q5.2.2).bind fun q12 =>
      some (q12.1, 0, q12.2.1, q12.2.2.1, q12.2.2.2.1, q12.2.2.2.2.1, q12.2.2.2.2.2.1, q12.2.2.2.2.2.2.1, q12.2.2.2.2.2.2.2.1, q12.2.2.2.2.2.2.2.2, z11, q5.2.1, q5.2.2)
    else
      some ((-1), 0, value, weight, many, pastValue, pastWeight, pastMany, undos, fresh, toValue, toWeight, toMany)
def mX6_sort_L35 (value : Nat → Int32) (x2 : Int32) (x3 : Int32) (x4 : Int32) : Nat → Int32 → Int32 → Option (Int32)
  | 0, _, _ => none
  | n + 1, x5, x6 =>
    if x2 < x6 then
      some x5
    else
      (if x3 = 0 then
        (rd value 120 x6).bind fun v16 =>
        (rd value 120 x4).bind fun v17 =>
        if v16 ≤ v17 then
          some 0
        else
          some 1
      else
        (rd value 120 x6).bind fun v19 =>
        (rd value 120 x4).bind fun v20 =>
        if v20 ≤ v19 then
          some 0
        else
          some 1).bind fun (z8 : Int32) =>
      if ¬ z8 = 0 then
        mX6_sort_L35 value x2 x3 x4 n (x5 + 1) (x6 + 1)
      else
        (rd value 120 x6).bind fun v11 =>
        (rd value 120 x4).bind fun v12 =>
        if ¬ v11 = v12 then
          mX6_sort_L35 value x2 x3 x4 n (x5 + 0) (x6 + 1)
        else
          if x4 ≤ x6 then
            mX6_sort_L35 value x2 x3 x4 n (x5 + 0) (x6 + 1)
          else
            mX6_sort_L35 value x2 x3 x4 n (x5 + 1) (x6 + 1)
def mX6_sort_L23 (value : Nat → Int32) (weight : Nat → Int32) (x1 : Int32) (x2 : Int32) (x3 : Int32) : Nat → Int32 → (Nat → Int32) → (Nat → Int32) → Option ((Nat → Int32) × (Nat → Int32))
  | 0, _, _, _ => none
  | n + 1, x4, toValue, toWeight =>
    if x2 < x4 then
      some (toValue, toWeight)
    else
      (mX6_sort_L35 value x2 x3 x4 FU 0 x1).bind fun z22 =>
      (mX6_lies value weight toValue toWeight x4 (x1 + z22)).bind fun q23 =>
      mX6_sort_L23 value weight x1 x2 x3 n (x4 + 1) q23.1 q23.2
def mX6_sort (thrown : Int32) (value : Nat → Int32) (weight : Nat → Int32) (many : Int32) (block : Int32) (pastValue : Nat → Int32) (pastWeight : Nat → Int32) (pastMany : Nat → Int32) (undos : Int32) (fresh : Int32) (toValue : Nat → Int32) (toWeight : Nat → Int32) (toMany : Int32) (x1 : Int32) (x2 : Int32) (x3 : Int32) : Option (Int32 × Int32 × (Nat → Int32) × (Nat → Int32) × Int32 × (Nat → Int32) × (Nat → Int32) × (Nat → Int32) × Int32 × Int32 × (Nat → Int32) × (Nat → Int32) × Int32) :=
  (mX6_isSpan many x1 x2).bind fun q1 =>
  if ¬ q1 = 0 then
    (mX6_begins value weight many toValue toWeight toMany).bind fun q3 =>
    (mX6_sort_L23 value weight x1 x2 x3 FU x1 q3.1 q3.2.1).bind fun z24 =>
    (mX6_done value weight many block pastValue pastWeight pastMany undos fresh z24.1 z24.2 q3.2.2).bind fun q25 =>
    some (q25.1, 0, q25.2.1, q25.2.2.1, q25.2.2.2.1, q25.2.2.2.2.1, q25.2.2.2.2.2.1, q25.2.2.2.2.2.2.1, q25.2.2.2.2.2.2.2.1, q25.2.2.2.2.2.2.2.2, z24.1, z24.2, q3.2.2)
  else
    some ((-1), 0, value, weight, many, pastValue, pastWeight, pastMany, undos, fresh, toValue, toWeight, toMany)
def mX6_refreshed (thrown : Int32) (fresh : Int32)  : Option (Int32 × Int32) :=
  some (fresh, 0)
def mX6_was (thrown : Int32) (value : Nat → Int32) (many : Int32) (pastValue : Nat → Int32) (pastMany : Nat → Int32) (undos : Int32) (x1 : Int32) (x2 : Int32) : Option (Int32 × Int32) :=
  if x1 < 0 then
    some ((-1), 0)
  else
    if undos < x1 then
      some ((-1), 0)
    else
      if 0 ≤ x2 then
        if ¬ x1 = 0 then
          (rd pastMany 12 (undos - x1)).bind fun v5 =>
          if v5 ≤ x2 then
            some ((-2), 0)
          else
            (rd pastValue 1440 ((120 * (undos - x1)) + x2)).bind fun v7 =>
            some (v7, 0)
        else
          if many ≤ x2 then
            some ((-2), 0)
          else
            (rd value 120 x2).bind fun v9 =>
            some (v9, 0)
      else
        some ((-1), 0)
def mX6_counts_L3  : Nat → Int32 → (Nat → Int32) → Option ((Nat → Int32))
  | 0, _, _ => none
  | n + 1, x4, often =>
    if 1000 ≤ x4 then
      some often
    else
      (wr often 1000 x4 0).bind fun a3 =>
      mX6_counts_L3  n (x4 + 1) a3
def mX6_counts_L33 (value : Nat → Int32) (x2 : Int32) (x3 : Int32) : Nat → Int32 → (Nat → Int32) → (Nat → Int32) → (Nat → Int32) → (Nat → Int32) → Int32 → Option ((Nat → Int32) × (Nat → Int32) × (Nat → Int32) × (Nat → Int32) × Int32)
  | 0, _, _, _, _, _, _ => none
  | n + 1, x4, often, firstOf, lastOf, unlikes, unlikeMany =>
    if x2 < x4 then
      some (often, firstOf, lastOf, unlikes, unlikeMany)
    else
      if ¬ x4 = x3 then
        (rd value 120 x4).bind fun v8 =>
        (rd often 1000 v8).bind fun v9 =>
        (if ¬ v9 = 0 then
          some (firstOf, unlikes, unlikeMany)
        else
          (wr firstOf 1000 v8 x4).bind fun a16 =>
          (wr unlikes 120 unlikeMany v8).bind fun a17 =>
          some (a16, a17, (unlikeMany + 1))).bind fun (z10 : (Nat → Int32) × (Nat → Int32) × Int32) =>
        (wr lastOf 1000 v8 x4).bind fun a12 =>
        (rd often 1000 v8).bind fun v13 =>
        (wr often 1000 v8 (v13 + 1)).bind fun a14 =>
        mX6_counts_L33 value x2 x3 n (x4 + 1) a14 z10.1 a12 z10.2.1 z10.2.2
      else
        mX6_counts_L33 value x2 x3 n (x4 + 1) often firstOf lastOf unlikes unlikeMany
def mX6_counts (value : Nat → Int32) (often : Nat → Int32) (firstOf : Nat → Int32) (lastOf : Nat → Int32) (unlikes : Nat → Int32) (unlikeMany : Int32) (x1 : Int32) (x2 : Int32) (x3 : Int32) : Option ((Nat → Int32) × (Nat → Int32) × (Nat → Int32) × (Nat → Int32) × Int32) :=
  (mX6_counts_L3  FU 0 often).bind fun z4 =>
  (mX6_counts_L33 value x2 x3 FU x1 z4 firstOf lastOf unlikes 0).bind fun z18 =>
  some (z18.1, z18.2.1, z18.2.2.1, z18.2.2.2.1, z18.2.2.2.2)
def mX6_isAhead (often : Nat → Int32) (firstOf : Nat → Int32) (lastOf : Nat → Int32) (x1 : Int32) (x2 : Int32) (x3 : Int32) : Option (Int32) :=
  (rd often 1000 x1).bind fun v1 =>
  (rd often 1000 x2).bind fun v2 =>
  if v1 = v2 then
    if x3 = 0 then
      (rd firstOf 1000 x1).bind fun v4 =>
      (rd firstOf 1000 x2).bind fun v5 =>
      if v5 ≤ v4 then
        some 0
      else
        some 1
    else if x3 = 1 then
      (rd lastOf 1000 x1).bind fun v8 =>
      (rd lastOf 1000 x2).bind fun v9 =>
      if v8 ≤ v9 then
        some 0
      else
        some 1
    else if x3 = 2 then
      if x2 ≤ x1 then
        some 0
      else
        some 1
    else 
      if x1 ≤ x2 then
        some 0
      else
        some 1
  else
    (rd often 1000 x1).bind fun v15 =>
    (rd often 1000 x2).bind fun v16 =>
    if v15 ≤ v16 then
      some 0
    else
      some 1
def mX6_rankOf_L5 (often : Nat → Int32) (firstOf : Nat → Int32) (lastOf : Nat → Int32) (unlikes : Nat → Int32) (unlikeMany : Int32) (x1 : Int32) (x2 : Int32) : Nat → Int32 → Int32 → Option (Int32)
  | 0, _, _ => none
  | n + 1, x3, x4 =>
    if unlikeMany ≤ x4 then
      some x3
    else
      (rd unlikes 120 x4).bind fun v3 =>
      if v3 = x1 then
        mX6_rankOf_L5 often firstOf lastOf unlikes unlikeMany x1 x2 n (x3 + 0) (x4 + 1)
      else
        (rd unlikes 120 x4).bind fun v5 =>
        (mX6_isAhead often firstOf lastOf v5 x1 x2).bind fun q6 =>
        if q6 = 0 then
          mX6_rankOf_L5 often firstOf lastOf unlikes unlikeMany x1 x2 n (x3 + 0) (x4 + 1)
        else
          mX6_rankOf_L5 often firstOf lastOf unlikes unlikeMany x1 x2 n (x3 + 1) (x4 + 1)
def mX6_rankOf (often : Nat → Int32) (firstOf : Nat → Int32) (lastOf : Nat → Int32) (unlikes : Nat → Int32) (unlikeMany : Int32) (x1 : Int32) (x2 : Int32) : Option (Int32) :=
  (mX6_rankOf_L5 often firstOf lastOf unlikes unlikeMany x1 x2 FU 0 0).bind fun z8 =>
  some z8
def mX6_ofRank_L2 (often : Nat → Int32) (firstOf : Nat → Int32) (lastOf : Nat → Int32) (unlikes : Nat → Int32) (unlikeMany : Int32) (x1 : Int32) (x2 : Int32) : Nat → Int32 → Option (Int32)
  | 0, _ => none
  | n + 1, x3 =>
    if unlikeMany ≤ x3 then
      some (-1)
    else
      (rd unlikes 120 x3).bind fun v3 =>
      (mX6_rankOf often firstOf lastOf unlikes unlikeMany v3 x2).bind fun q4 =>
      if ¬ q4 = x1 then
        mX6_ofRank_L2 often firstOf lastOf unlikes unlikeMany x1 x2 n (x3 + 1)
      else
        (rd unlikes 120 x3).bind fun v6 =>
        some v6
def mX6_ofRank (often : Nat → Int32) (firstOf : Nat → Int32) (lastOf : Nat → Int32) (unlikes : Nat → Int32) (unlikeMany : Int32) (x1 : Int32) (x2 : Int32) : Option (Int32) :=
  mX6_ofRank_L2 often firstOf lastOf unlikes unlikeMany x1 x2 FU 0
def mX6_modeBy_L4 (often : Nat → Int32) (firstOf : Nat → Int32) (lastOf : Nat → Int32) (unlikes : Nat → Int32) (unlikeMany : Int32) (x1 : Int32) : Nat → Int32 → Int32 → Option (Int32)
  | 0, _, _ => none
  | n + 1, x2, x3 =>
    if unlikeMany ≤ x3 then
      some x2
    else
      if x2 = (-1) then
        (rd unlikes 120 x3).bind fun v4 =>
        mX6_modeBy_L4 often firstOf lastOf unlikes unlikeMany x1 n v4 (x3 + 1)
      else
        (rd unlikes 120 x3).bind fun v5 =>
        (mX6_isAhead often firstOf lastOf v5 x2 x1).bind fun q6 =>
        if q6 = 0 then
          mX6_modeBy_L4 often firstOf lastOf unlikes unlikeMany x1 n x2 (x3 + 1)
        else
          (rd unlikes 120 x3).bind fun v8 =>
          mX6_modeBy_L4 often firstOf lastOf unlikes unlikeMany x1 n v8 (x3 + 1)
def mX6_modeBy (often : Nat → Int32) (firstOf : Nat → Int32) (lastOf : Nat → Int32) (unlikes : Nat → Int32) (unlikeMany : Int32) (x1 : Int32) : Option (Int32) :=
  (mX6_modeBy_L4 often firstOf lastOf unlikes unlikeMany x1 FU (-1) 0).bind fun z9 =>
  some z9
def mX6_modeOf (value : Nat → Int32) (ties : Int32) (often : Nat → Int32) (firstOf : Nat → Int32) (lastOf : Nat → Int32) (unlikes : Nat → Int32) (unlikeMany : Int32) (x1 : Int32) (x2 : Int32) : Option (Int32 × (Nat → Int32) × (Nat → Int32) × (Nat → Int32) × (Nat → Int32) × Int32) :=
  (mX6_counts value often firstOf lastOf unlikes unlikeMany x1 x2 (-1)).bind fun q1 =>
  (mX6_modeBy q1.1 q1.2.1 q1.2.2.1 q1.2.2.2.1 q1.2.2.2.2 ties).bind fun q2 =>
  some (q2, q1.1, q1.2.1, q1.2.2.1, q1.2.2.2.1, q1.2.2.2.2)
def mX6_told (often : Nat → Int32) (firstOf : Nat → Int32) (lastOf : Nat → Int32) (x1 : Int32) (x2 : Int32) : Option (Int32) :=
  if ¬ x2 = 0 then
    if ¬ x2 = 1 then
      if ¬ x2 = 2 then
        (rd lastOf 1000 x1).bind fun v4 =>
        some v4
      else
        (rd firstOf 1000 x1).bind fun v5 =>
        some v5
    else
      (rd often 1000 x1).bind fun v6 =>
      some v6
  else
    some x1
def mX6_mode (thrown : Int32) (value : Nat → Int32) (many : Int32) (ties : Int32) (often : Nat → Int32) (firstOf : Nat → Int32) (lastOf : Nat → Int32) (unlikes : Nat → Int32) (unlikeMany : Int32) (x1 : Int32) (x2 : Int32) (x3 : Int32) : Option (Int32 × Int32 × (Nat → Int32) × (Nat → Int32) × (Nat → Int32) × (Nat → Int32) × Int32) :=
  (mX6_isSpan many x1 x2).bind fun q1 =>
  if q1 = 0 then
    some ((-1), 0, often, firstOf, lastOf, unlikes, unlikeMany)
  else
    if x3 < 0 then
      some ((-1), 0, often, firstOf, lastOf, unlikes, unlikeMany)
    else
      if x3 ≤ 3 then
        (mX6_modeOf value ties often firstOf lastOf unlikes unlikeMany x1 x2).bind fun q5 =>
        (mX6_told q5.2.1 q5.2.2.1 q5.2.2.2.1 q5.1 x3).bind fun q6 =>
        some (q6, 0, q5.2.1, q5.2.2.1, q5.2.2.2.1, q5.2.2.2.2.1, q5.2.2.2.2.2)
      else
        some ((-1), 0, often, firstOf, lastOf, unlikes, unlikeMany)
def mX6_ranked (thrown : Int32) (value : Nat → Int32) (many : Int32) (ties : Int32) (often : Nat → Int32) (firstOf : Nat → Int32) (lastOf : Nat → Int32) (unlikes : Nat → Int32) (unlikeMany : Int32) (x1 : Int32) (x2 : Int32) (x3 : Int32) (x4 : Int32) : Option (Int32 × Int32 × (Nat → Int32) × (Nat → Int32) × (Nat → Int32) × (Nat → Int32) × Int32) :=
  (mX6_isSpan many x1 x2).bind fun q1 =>
  if q1 = 0 then
    some ((-1), 0, often, firstOf, lastOf, unlikes, unlikeMany)
  else
    if x3 < 0 then
      some ((-1), 0, often, firstOf, lastOf, unlikes, unlikeMany)
    else
      if x4 < 0 then
        some ((-1), 0, often, firstOf, lastOf, unlikes, unlikeMany)
      else
        if x4 ≤ 3 then
          (mX6_counts value often firstOf lastOf unlikes unlikeMany x1 x2 (-1)).bind fun q6 =>
          (mX6_ofRank q6.1 q6.2.1 q6.2.2.1 q6.2.2.2.1 q6.2.2.2.2 x3 ties).bind fun q7 =>
          if ¬ q7 = (-1) then
            (mX6_told q6.1 q6.2.1 q6.2.2.1 q7 x4).bind fun q9 =>
            some (q9, 0, q6.1, q6.2.1, q6.2.2.1, q6.2.2.2.1, q6.2.2.2.2)
          else
            some ((-2), 0, q6.1, q6.2.1, q6.2.2.1, q6.2.2.2.1, q6.2.2.2.2)
        else
          some ((-1), 0, often, firstOf, lastOf, unlikes, unlikeMany)
def mX6_rank (thrown : Int32) (value : Nat → Int32) (many : Int32) (ties : Int32) (often : Nat → Int32) (firstOf : Nat → Int32) (lastOf : Nat → Int32) (unlikes : Nat → Int32) (unlikeMany : Int32) (x1 : Int32) (x2 : Int32) (x3 : Int32) : Option (Int32 × Int32 × (Nat → Int32) × (Nat → Int32) × (Nat → Int32) × (Nat → Int32) × Int32) :=
  (mX6_isSpan many x1 x2).bind fun q1 =>
  if q1 = 0 then
    some ((-1), 0, often, firstOf, lastOf, unlikes, unlikeMany)
  else
    (mX6_isValue x3).bind fun q3 =>
    if ¬ q3 = 0 then
      (mX6_counts value often firstOf lastOf unlikes unlikeMany x1 x2 (-1)).bind fun q5 =>
      (rd q5.1 1000 x3).bind fun v6 =>
      if ¬ v6 = 0 then
        (mX6_rankOf q5.1 q5.2.1 q5.2.2.1 q5.2.2.2.1 q5.2.2.2.2 x3 ties).bind fun q8 =>
        some (q8, 0, q5.1, q5.2.1, q5.2.2.1, q5.2.2.2.1, q5.2.2.2.2)
      else
        some ((-2), 0, q5.1, q5.2.1, q5.2.2.1, q5.2.2.2.1, q5.2.2.2.2)
    else
      some ((-1), 0, often, firstOf, lastOf, unlikes, unlikeMany)
def mX6_often (thrown : Int32) (value : Nat → Int32) (many : Int32) (x1 : Int32) (x2 : Int32) (x3 : Int32) : Option (Int32 × Int32) :=
  (mX6_isSpan many x1 x2).bind fun q1 =>
  if q1 = 0 then
    some ((-1), 0)
  else
    (mX6_isValue x3).bind fun q3 =>
    if ¬ q3 = 0 then
      (mX6_timesIn value x1 x2 x3).bind fun q5 =>
      some (q5, 0)
    else
      some ((-1), 0)
def mX6_at_L23 (thrown : Int32) (value : Nat → Int32) (many : Int32) (x1 : Int32) : Nat → Int32 → Int32 → Option (Int32 × Int32)
  | 0, _, _ => none
  | n + 1, x3, x4 =>
    if many ≤ x4 then
      some ((-2), thrown)
    else
      (rd value 120 x4).bind fun v6 =>
      if v6 = x1 then
        if ¬ x3 = 0 then
          mX6_at_L23 thrown value many x1 n (x3 + (-1)) (x4 + 1)
        else
          some (x4, thrown)
      else
        mX6_at_L23 thrown value many x1 n x3 (x4 + 1)
def mX6_at (thrown : Int32) (value : Nat → Int32) (many : Int32) (x1 : Int32) (x2 : Int32) : Option (Int32 × Int32) :=
  (mX6_isValue x1).bind fun q1 =>
  if q1 = 0 then
    some ((-1), 0)
  else
    if 0 ≤ x2 then
      mX6_at_L23 0 value many x1 FU x2 0
    else
      some ((-1), 0)
def mX6_unlike (thrown : Int32) (value : Nat → Int32) (many : Int32) (often : Nat → Int32) (firstOf : Nat → Int32) (lastOf : Nat → Int32) (unlikes : Nat → Int32) (unlikeMany : Int32) (x1 : Int32) (x2 : Int32) : Option (Int32 × Int32 × (Nat → Int32) × (Nat → Int32) × (Nat → Int32) × (Nat → Int32) × Int32) :=
  (mX6_isSpan many x1 x2).bind fun q1 =>
  if ¬ q1 = 0 then
    (mX6_counts value often firstOf lastOf unlikes unlikeMany x1 x2 (-1)).bind fun q3 =>
    some (q3.2.2.2.2, 0, q3.1, q3.2.1, q3.2.2.1, q3.2.2.2.1, q3.2.2.2.2)
  else
    some ((-1), 0, often, firstOf, lastOf, unlikes, unlikeMany)
def mX6_times_L34 (often : Nat → Int32) (unlikes : Nat → Int32) (unlikeMany : Int32) (x3 : Int32) : Nat → Int32 → Int32 → Option (Int32)
  | 0, _, _ => none
  | n + 1, x4, x5 =>
    if unlikeMany ≤ x5 then
      some x4
    else
      (rd unlikes 120 x5).bind fun v7 =>
      (rd often 1000 v7).bind fun v8 =>
      if ¬ v8 = x3 then
        mX6_times_L34 often unlikes unlikeMany x3 n (x4 + 0) (x5 + 1)
      else
        mX6_times_L34 often unlikes unlikeMany x3 n (x4 + 1) (x5 + 1)
def mX6_times (thrown : Int32) (value : Nat → Int32) (many : Int32) (often : Nat → Int32) (firstOf : Nat → Int32) (lastOf : Nat → Int32) (unlikes : Nat → Int32) (unlikeMany : Int32) (x1 : Int32) (x2 : Int32) (x3 : Int32) : Option (Int32 × Int32 × (Nat → Int32) × (Nat → Int32) × (Nat → Int32) × (Nat → Int32) × Int32) :=
  (mX6_isSpan many x1 x2).bind fun q1 =>
  if q1 = 0 then
    some ((-1), 0, often, firstOf, lastOf, unlikes, unlikeMany)
  else
    if 1 ≤ x3 then
      (mX6_counts value often firstOf lastOf unlikes unlikeMany x1 x2 (-1)).bind fun q4 =>
      (mX6_times_L34 q4.1 q4.2.2.2.1 q4.2.2.2.2 x3 FU 0 0).bind fun z10 =>
      some (z10, 0, q4.1, q4.2.1, q4.2.2.1, q4.2.2.2.1, q4.2.2.2.2)
    else
      some ((-1), 0, often, firstOf, lastOf, unlikes, unlikeMany)
def mX6_majorityOf (value : Nat → Int32) (ties : Int32) (often : Nat → Int32) (firstOf : Nat → Int32) (lastOf : Nat → Int32) (unlikes : Nat → Int32) (unlikeMany : Int32) (x1 : Int32) (x2 : Int32) : Option (Int32 × (Nat → Int32) × (Nat → Int32) × (Nat → Int32) × (Nat → Int32) × Int32) :=
  (mX6_modeOf value ties often firstOf lastOf unlikes unlikeMany x1 x2).bind fun q1 =>
  (rd q1.2.1 1000 q1.1).bind fun v2 =>
  if (2 * v2) ≤ ((x2 - x1) + 1) then
    some ((-1), q1.2.1, q1.2.2.1, q1.2.2.2.1, q1.2.2.2.2.1, q1.2.2.2.2.2)
  else
    some (q1.1, q1.2.1, q1.2.2.1, q1.2.2.2.1, q1.2.2.2.2.1, q1.2.2.2.2.2)
def mX6_majority (thrown : Int32) (value : Nat → Int32) (many : Int32) (ties : Int32) (often : Nat → Int32) (firstOf : Nat → Int32) (lastOf : Nat → Int32) (unlikes : Nat → Int32) (unlikeMany : Int32) (x1 : Int32) (x2 : Int32) : Option (Int32 × Int32 × (Nat → Int32) × (Nat → Int32) × (Nat → Int32) × (Nat → Int32) × Int32) :=
  (mX6_isSpan many x1 x2).bind fun q1 =>
  if ¬ q1 = 0 then
    (mX6_majorityOf value ties often firstOf lastOf unlikes unlikeMany x1 x2).bind fun q3 =>
    if ¬ q3.1 = (-1) then
      some (q3.1, 0, q3.2.1, q3.2.2.1, q3.2.2.2.1, q3.2.2.2.2.1, q3.2.2.2.2.2)
    else
      some ((-2), 0, q3.2.1, q3.2.2.1, q3.2.2.2.1, q3.2.2.2.2.1, q3.2.2.2.2.2)
  else
    some ((-1), 0, often, firstOf, lastOf, unlikes, unlikeMany)
def mX6_weightsOf_L6 (value : Nat → Int32) (weight : Nat → Int32) (x2 : Int32) (x3 : Int32) : Nat → Int32 → Int32 → Option (Int32)
  | 0, _, _ => none
  | n + 1, x4, x5 =>
    if x2 < x5 then
      some x4
    else
      (rd value 120 x5).bind fun v3 =>
      if ¬ v3 = x3 then
        mX6_weightsOf_L6 value weight x2 x3 n (x4 + 0) (x5 + 1)
      else
        (rd weight 120 x5).bind fun v5 =>
        mX6_weightsOf_L6 value weight x2 x3 n (x4 + v5) (x5 + 1)
def mX6_weightsOf (value : Nat → Int32) (weight : Nat → Int32) (x1 : Int32) (x2 : Int32) (x3 : Int32) : Option (Int32) :=
  (mX6_weightsOf_L6 value weight x2 x3 FU 0 x1).bind fun z6 =>
  some z6
def mX6_heaviest_L41 (value : Nat → Int32) (weight : Nat → Int32) (ties : Int32) (often : Nat → Int32) (firstOf : Nat → Int32) (lastOf : Nat → Int32) (unlikes : Nat → Int32) (unlikeMany : Int32) (x1 : Int32) (x2 : Int32) : Nat → Int32 → Int32 → Int32 → Option (Int32 × Int32)
  | 0, _, _, _ => none
  | n + 1, x4, x5, x6 =>
    if unlikeMany ≤ x6 then
      some (x4, x5)
    else
      (rd unlikes 120 x6).bind fun v8 =>
      (mX6_weightsOf value weight x1 x2 v8).bind fun q9 =>
      (if x4 = (-1) then
        some 1
      else
        if x5 < q9 then
          some 1
        else
          if ¬ q9 = x5 then
            some 0
          else
            (mX6_isAhead often firstOf lastOf v8 x4 ties).bind fun q16 =>
            if q16 = 0 then
              some 0
            else
              some 1).bind fun (z10 : Int32) =>
      if ¬ z10 = 0 then
        mX6_heaviest_L41 value weight ties often firstOf lastOf unlikes unlikeMany x1 x2 n v8 q9 (x6 + 1)
      else
        mX6_heaviest_L41 value weight ties often firstOf lastOf unlikes unlikeMany x1 x2 n x4 x5 (x6 + 1)
def mX6_heaviest (thrown : Int32) (value : Nat → Int32) (weight : Nat → Int32) (many : Int32) (ties : Int32) (often : Nat → Int32) (firstOf : Nat → Int32) (lastOf : Nat → Int32) (unlikes : Nat → Int32) (unlikeMany : Int32) (x1 : Int32) (x2 : Int32) (x3 : Int32) : Option (Int32 × Int32 × (Nat → Int32) × (Nat → Int32) × (Nat → Int32) × (Nat → Int32) × Int32) :=
  (mX6_isSpan many x1 x2).bind fun q1 =>
  if q1 = 0 then
    some ((-1), 0, often, firstOf, lastOf, unlikes, unlikeMany)
  else
    if x3 < 0 then
      some ((-1), 0, often, firstOf, lastOf, unlikes, unlikeMany)
    else
      if x3 ≤ 1 then
        (mX6_counts value often firstOf lastOf unlikes unlikeMany x1 x2 (-1)).bind fun q5 =>
        (mX6_heaviest_L41 value weight ties q5.1 q5.2.1 q5.2.2.1 q5.2.2.2.1 q5.2.2.2.2 x1 x2 FU (-1) 0 0).bind fun z18 =>
        if ¬ x3 = 0 then
          some (z18.2, 0, q5.1, q5.2.1, q5.2.2.1, q5.2.2.2.1, q5.2.2.2.2)
        else
          some (z18.1, 0, q5.1, q5.2.1, q5.2.2.1, q5.2.2.2.1, q5.2.2.2.2)
      else
        some ((-1), 0, often, firstOf, lastOf, unlikes, unlikeMany)
def mX6_endOf (many : Int32) (block : Int32) (x1 : Int32) : Option (Int32) :=
  (mX6_placesOf block x1 many).bind fun q1 =>
  some (((block * x1) + q1) - 1)
def mX6_pair (thrown : Int32) (value : Nat → Int32) (many : Int32) (block : Int32) (ties : Int32) (often : Nat → Int32) (firstOf : Nat → Int32) (lastOf : Nat → Int32) (unlikes : Nat → Int32) (unlikeMany : Int32) (x1 : Int32) (x2 : Int32) (x3 : Int32) : Option (Int32 × Int32 × (Nat → Int32) × (Nat → Int32) × (Nat → Int32) × (Nat → Int32) × Int32) :=
  if x1 < 0 then
    some ((-1), 0, often, firstOf, lastOf, unlikes, unlikeMany)
  else
    if x2 < x1 then
      some ((-1), 0, often, firstOf, lastOf, unlikes, unlikeMany)
    else
      (mX6_blocks many block).bind fun q3 =>
      if q3 ≤ x2 then
        some ((-1), 0, often, firstOf, lastOf, unlikes, unlikeMany)
      else
        if x3 < 0 then
          some ((-1), 0, often, firstOf, lastOf, unlikes, unlikeMany)
        else
          if x3 ≤ 1 then
            (mX6_endOf many block x2).bind fun q7 =>
            (mX6_modeOf value ties often firstOf lastOf unlikes unlikeMany (block * x1) q7).bind fun q8 =>
            (mX6_told q8.2.1 q8.2.2.1 q8.2.2.2.1 q8.1 x3).bind fun q9 =>
            some (q9, 0, q8.2.1, q8.2.2.1, q8.2.2.2.1, q8.2.2.2.2.1, q8.2.2.2.2.2)
          else
            some ((-1), 0, often, firstOf, lastOf, unlikes, unlikeMany)
def mX6_candidate_L42 (many : Int32) (block : Int32) (x2 : Int32) : Nat → Int32 → Option (Int32)
  | 0, _ => none
  | n + 1, x5 =>
    (mX6_blocks many block).bind fun q6 =>
    if q6 ≤ (x5 + 1) then
      some x5
    else
      (mX6_endOf many block (x5 + 1)).bind fun q8 =>
      if x2 < q8 then
        some x5
      else
        mX6_candidate_L42 many block x2 n (x5 + 1)
def mX6_candidate_L74  : Nat → Int32 → (Nat → Int32) → Option ((Nat → Int32))
  | 0, _, _ => none
  | n + 1, x6, isCandidate =>
    if 1000 ≤ x6 then
      some isCandidate
    else
      (wr isCandidate 1000 x6 (vp_nar .boolean 0)).bind fun a13 =>
      mX6_candidate_L74  n (x6 + 1) a13
def mX6_candidate_L141 (value : Nat → Int32) (many : Int32) (block : Int32) (x2 : Int32) (x4 : Int32) (x5 : Int32) (x6 : Int32) : Nat → Int32 → (Nat → Int32) → Option ((Nat → Int32))
  | 0, _, _ => none
  | n + 1, x7, isCandidate =>
    if x2 < x7 then
      some isCandidate
    else
      if x6 = 0 then
        (rd value 120 x7).bind fun v22 =>
        (wr isCandidate 1000 v22 (vp_nar .boolean 1)).bind fun a23 =>
        mX6_candidate_L141 value many block x2 x4 x5 x6 n (x7 + 1) a23
      else
        if x7 < (block * x4) then
          (rd value 120 x7).bind fun v25 =>
          (wr isCandidate 1000 v25 (vp_nar .boolean 1)).bind fun a26 =>
          mX6_candidate_L141 value many block x2 x4 x5 x6 n (x7 + 1) a26
        else
          (mX6_endOf many block x5).bind fun q27 =>
          if x7 ≤ q27 then
            mX6_candidate_L141 value many block x2 x4 x5 x6 n (x7 + 1) isCandidate
          else
            (rd value 120 x7).bind fun v29 =>
            (wr isCandidate 1000 v29 (vp_nar .boolean 1)).bind fun a30 =>
            mX6_candidate_L141 value many block x2 x4 x5 x6 n (x7 + 1) a30
def mX6_candidate_L207 (thrown : Int32) (ties : Int32) (often : Nat → Int32) (firstOf : Nat → Int32) (lastOf : Nat → Int32) (unlikes : Nat → Int32) (unlikeMany : Int32) (isCandidate : Nat → Int32) (x3 : Int32) : Nat → Int32 → Int32 → Option (Int32 × Int32 × (Nat → Int32) × (Nat → Int32) × (Nat → Int32) × (Nat → Int32) × Int32 × (Nat → Int32))
  | 0, _, _ => none
  | n + 1, x7, x8 =>
    if unlikeMany ≤ x8 then
      if ¬ x3 = (-1) then
        some ((-2), thrown, often, firstOf, lastOf, unlikes, unlikeMany, isCandidate)
      else
        some (x7, thrown, often, firstOf, lastOf, unlikes, unlikeMany, isCandidate)
    else
      (mX6_ofRank often firstOf lastOf unlikes unlikeMany x8 ties).bind fun q36 =>
      (rd isCandidate 1000 q36).bind fun v37 =>
      if ¬ v37 = 0 then
        if ¬ x7 = x3 then
          mX6_candidate_L207 thrown ties often firstOf lastOf unlikes unlikeMany isCandidate x3 n (x7 + 1) (x8 + 1)
        else
          some (q36, thrown, often, firstOf, lastOf, unlikes, unlikeMany, isCandidate)
      else
        mX6_candidate_L207 thrown ties often firstOf lastOf unlikes unlikeMany isCandidate x3 n x7 (x8 + 1)
def mX6_candidate (thrown : Int32) (value : Nat → Int32) (many : Int32) (block : Int32) (ties : Int32) (often : Nat → Int32) (firstOf : Nat → Int32) (lastOf : Nat → Int32) (unlikes : Nat → Int32) (unlikeMany : Int32) (isCandidate : Nat → Int32) (x1 : Int32) (x2 : Int32) (x3 : Int32) : Option (Int32 × Int32 × (Nat → Int32) × (Nat → Int32) × (Nat → Int32) × (Nat → Int32) × Int32 × (Nat → Int32)) :=
  (mX6_isSpan many x1 x2).bind fun q1 =>
  if q1 = 0 then
    some ((-1), 0, often, firstOf, lastOf, unlikes, unlikeMany, isCandidate)
  else
    if (-1) ≤ x3 then
      (idv ((x1 + block) - 1) block).bind fun v4 =>
      (mX6_candidate_L42 many block x2 FU (v4 - 1)).bind fun z10 =>
      (mX6_candidate_L74  FU 0 isCandidate).bind fun z14 =>
      (if z10 < v4 then
        some 0
      else
        some 1).bind fun (z15 : Int32) =>
      (if z15 = 0 then
        some (often, firstOf, lastOf, unlikes, unlikeMany, z14)
      else
        (mX6_endOf many block z10).bind fun q41 =>
        (mX6_modeOf value ties often firstOf lastOf unlikes unlikeMany (block * v4) q41).bind fun q42 =>
        (wr z14 1000 q42.1 (vp_nar .boolean 1)).bind fun a43 =>
        some (q42.2.1, q42.2.2.1, q42.2.2.2.1, q42.2.2.2.2.1, q42.2.2.2.2.2, a43)).bind fun (z17 : (Nat → Int32) × (Nat → Int32) × (Nat → Int32) × (Nat → Int32) × Int32 × (Nat → Int32)) =>
      (mX6_candidate_L141 value many block x2 v4 z10 z15 FU x1 z17.2.2.2.2.2).bind fun z31 =>
      (mX6_counts value z17.1 z17.2.1 z17.2.2.1 z17.2.2.2.1 z17.2.2.2.2.1 x1 x2 (-1)).bind fun q32 =>
      mX6_candidate_L207 0 ties q32.1 q32.2.1 q32.2.2.1 q32.2.2.2.1 q32.2.2.2.2 z31 x3 FU 0 0
    else
      some ((-1), 0, often, firstOf, lastOf, unlikes, unlikeMany, isCandidate)
def mX6_median_L32 (often : Nat → Int32) : Nat → Int32 → Int32 → Option (Int32)
  | 0, _, _ => none
  | n + 1, x3, x4 =>
    (rd often 1000 x4).bind fun v6 =>
    if x3 < v6 then
      some x4
    else
      (rd often 1000 x4).bind fun v8 =>
      mX6_median_L32 often n (x3 - v8) (x4 + 1)
def mX6_median (thrown : Int32) (value : Nat → Int32) (many : Int32) (often : Nat → Int32) (firstOf : Nat → Int32) (lastOf : Nat → Int32) (unlikes : Nat → Int32) (unlikeMany : Int32) (x1 : Int32) (x2 : Int32) : Option (Int32 × Int32 × (Nat → Int32) × (Nat → Int32) × (Nat → Int32) × (Nat → Int32) × Int32) :=
  (mX6_isSpan many x1 x2).bind fun q1 =>
  if ¬ q1 = 0 then
    (idv (x2 - x1) 2).bind fun v3 =>
    (mX6_counts value often firstOf lastOf unlikes unlikeMany x1 x2 (-1)).bind fun q4 =>
    (mX6_median_L32 q4.1 FU v3 0).bind fun z9 =>
    some (z9, 0, q4.1, q4.2.1, q4.2.2.1, q4.2.2.2.1, q4.2.2.2.2)
  else
    some ((-1), 0, often, firstOf, lastOf, unlikes, unlikeMany)
def mX6_twisted_L33 (value : Nat → Int32) (x2 : Int32) (x4 : Int32) : Nat → Int32 → Int32 → Option (Int32)
  | 0, _, _ => none
  | n + 1, x3, x5 =>
    if x2 < x5 then
      some x3
    else
      (rd value 120 x4).bind fun v7 =>
      (rd value 120 x5).bind fun v8 =>
      if v7 ≤ v8 then
        mX6_twisted_L33 value x2 x4 n (x3 + 0) (x5 + 1)
      else
        mX6_twisted_L33 value x2 x4 n (x3 + 1) (x5 + 1)
def mX6_twisted_L21 (value : Nat → Int32) (x2 : Int32) : Nat → Int32 → Int32 → Option (Int32)
  | 0, _, _ => none
  | n + 1, x3, x4 =>
    if x2 < x4 then
      some x3
    else
      (mX6_twisted_L33 value x2 x4 FU x3 (x4 + 1)).bind fun z10 =>
      mX6_twisted_L21 value x2 n z10 (x4 + 1)
def mX6_twisted (thrown : Int32) (value : Nat → Int32) (many : Int32) (x1 : Int32) (x2 : Int32) : Option (Int32 × Int32) :=
  (mX6_isSpan many x1 x2).bind fun q1 =>
  if ¬ q1 = 0 then
    (mX6_twisted_L21 value x2 FU 0 x1).bind fun z11 =>
    some (z11, 0)
  else
    some ((-1), 0)
def mX6_run_L44 (value : Nat → Int32) (x2 : Int32) (x6 : Int32) : Nat → Int32 → Option (Int32)
  | 0, _ => none
  | n + 1, x7 =>
    if x2 ≤ x7 then
      some x7
    else
      (rd value 120 (x7 + 1)).bind fun v9 =>
      (rd value 120 x6).bind fun v10 =>
      if ¬ v9 = v10 then
        some x7
      else
        mX6_run_L44 value x2 x6 n (x7 + 1)
def mX6_run_L34 (value : Nat → Int32) (x2 : Int32) : Nat → Int32 → Int32 → Int32 → Option (Int32 × Int32)
  | 0, _, _, _ => none
  | n + 1, x4, x5, x6 =>
    if x2 < x6 then
      some (x4, x5)
    else
      (mX6_run_L44 value x2 x6 FU x6).bind fun z12 =>
      if x5 < ((z12 - x6) + 1) then
        mX6_run_L34 value x2 n x6 ((z12 - x6) + 1) (x6 + 1)
      else
        mX6_run_L34 value x2 n x4 x5 (x6 + 1)
def mX6_run (thrown : Int32) (value : Nat → Int32) (many : Int32) (x1 : Int32) (x2 : Int32) (x3 : Int32) : Option (Int32 × Int32) :=
  (mX6_isSpan many x1 x2).bind fun q1 =>
  if q1 = 0 then
    some ((-1), 0)
  else
    if x3 < 0 then
      some ((-1), 0)
    else
      if x3 ≤ 2 then
        (mX6_run_L34 value x2 FU x1 0 x1).bind fun z14 =>
        if ¬ x3 = 0 then
          if ¬ x3 = 1 then
            (rd value 120 z14.1).bind fun v17 =>
            some (v17, 0)
          else
            some (((z14.1 + z14.2) - 1), 0)
        else
          some (z14.1, 0)
      else
        some ((-1), 0)
def mX6_common_L45 (value : Nat → Int32) (often : Nat → Int32) (unlikes : Nat → Int32) (unlikeMany : Int32) (x1 : Int32) (x2 : Int32) (x3 : Int32) : Nat → Int32 → Int32 → Option (Int32)
  | 0, _, _ => none
  | n + 1, x4, x5 =>
    if unlikeMany ≤ x5 then
      some x4
    else
      (rd unlikes 120 x5).bind fun v8 =>
      (mX6_timesIn value x3 ((x3 + x2) - x1) v8).bind fun q9 =>
      (rd unlikes 120 x5).bind fun v10 =>
      (rd often 1000 v10).bind fun v11 =>
      if v11 ≤ q9 then
        (rd unlikes 120 x5).bind fun v13 =>
        (rd often 1000 v13).bind fun v14 =>
        mX6_common_L45 value often unlikes unlikeMany x1 x2 x3 n (x4 + v14) (x5 + 1)
      else
        mX6_common_L45 value often unlikes unlikeMany x1 x2 x3 n (x4 + q9) (x5 + 1)
def mX6_common (thrown : Int32) (value : Nat → Int32) (many : Int32) (often : Nat → Int32) (firstOf : Nat → Int32) (lastOf : Nat → Int32) (unlikes : Nat → Int32) (unlikeMany : Int32) (x1 : Int32) (x2 : Int32) (x3 : Int32) : Option (Int32 × Int32 × (Nat → Int32) × (Nat → Int32) × (Nat → Int32) × (Nat → Int32) × Int32) :=
  (mX6_isSpan many x1 x2).bind fun q1 =>
  if q1 = 0 then
    some ((-1), 0, often, firstOf, lastOf, unlikes, unlikeMany)
  else
    if x3 < 0 then
      some ((-1), 0, often, firstOf, lastOf, unlikes, unlikeMany)
    else
      if x3 < (many - (x2 - x1)) then
        (mX6_counts value often firstOf lastOf unlikes unlikeMany x1 x2 (-1)).bind fun q5 =>
        (mX6_common_L45 value q5.1 q5.2.2.2.1 q5.2.2.2.2 x1 x2 x3 FU 0 0).bind fun z15 =>
        some (z15, 0, q5.1, q5.2.1, q5.2.2.1, q5.2.2.2.1, q5.2.2.2.2)
      else
        some ((-1), 0, often, firstOf, lastOf, unlikes, unlikeMany)
def mX6_window (thrown : Int32) (value : Nat → Int32) (many : Int32) (ties : Int32) (often : Nat → Int32) (firstOf : Nat → Int32) (lastOf : Nat → Int32) (unlikes : Nat → Int32) (unlikeMany : Int32) (x1 : Int32) (x2 : Int32) : Option (Int32 × Int32 × (Nat → Int32) × (Nat → Int32) × (Nat → Int32) × (Nat → Int32) × Int32) :=
  if x1 < 1 then
    some ((-1), 0, often, firstOf, lastOf, unlikes, unlikeMany)
  else
    if many < x1 then
      some ((-1), 0, often, firstOf, lastOf, unlikes, unlikeMany)
    else
      if 0 ≤ x2 then
        if x2 ≤ (many - x1) then
          (mX6_modeOf value ties often firstOf lastOf unlikes unlikeMany x2 ((x2 + x1) - 1)).bind fun q5 =>
          some (q5.1, 0, q5.2.1, q5.2.2.1, q5.2.2.2.1, q5.2.2.2.2.1, q5.2.2.2.2.2)
        else
          some ((-2), 0, often, firstOf, lastOf, unlikes, unlikeMany)
      else
        some ((-1), 0, often, firstOf, lastOf, unlikes, unlikeMany)
def mX6_windows_L31  : Nat → Int32 → (Nat → Int32) → Option ((Nat → Int32))
  | 0, _, _ => none
  | n + 1, x3, modes =>
    if 1000 ≤ x3 then
      some modes
    else
      (wr modes 1000 x3 0).bind fun a7 =>
      mX6_windows_L31  n (x3 + 1) a7
def mX6_windows_L59 (value : Nat → Int32) (many : Int32) (ties : Int32) (x1 : Int32) : Nat → Int32 → Int32 → Int32 → (Nat → Int32) → (Nat → Int32) → (Nat → Int32) → (Nat → Int32) → Int32 → (Nat → Int32) → Option (Int32 × (Nat → Int32) × (Nat → Int32) × (Nat → Int32) × (Nat → Int32) × Int32 × (Nat → Int32))
  | 0, _, _, _, _, _, _, _, _, _ => none
  | n + 1, x3, x4, x5, often, firstOf, lastOf, unlikes, unlikeMany, modes =>
    if many < (x5 + x1) then
      some (x3, often, firstOf, lastOf, unlikes, unlikeMany, modes)
    else
      (mX6_modeOf value ties often firstOf lastOf unlikes unlikeMany x5 ((x5 + x1) - 1)).bind fun q11 =>
      (if x5 ≤ 0 then
        some 0
      else
        if q11.1 = x4 then
          some 0
        else
          some 1).bind fun (z12 : Int32) =>
      (rd modes 1000 q11.1).bind fun v14 =>
      (wr modes 1000 q11.1 (v14 + 1)).bind fun a15 =>
      mX6_windows_L59 value many ties x1 n (x3 + z12) q11.1 (x5 + 1) q11.2.1 q11.2.2.1 q11.2.2.2.1 q11.2.2.2.2.1 q11.2.2.2.2.2 a15
def mX6_windows_L134 (modes : Nat → Int32) : Nat → Int32 → Int32 → Int32 → Option (Int32 × Int32)
  | 0, _, _, _ => none
  | n + 1, x5, x6, x7 =>
    if 1000 ≤ x7 then
      some (x5, x6)
    else
      (rd modes 1000 x7).bind fun v21 =>
      (if v21 ≤ 0 then
        some 0
      else
        some 1).bind fun (z22 : Int32) =>
      (rd modes 1000 x7).bind fun v24 =>
      if ¬ x6 = (-1) then
        (rd modes 1000 x6).bind fun v26 =>
        if v24 ≤ v26 then
          mX6_windows_L134 modes n (x5 + z22) x6 (x7 + 1)
        else
          mX6_windows_L134 modes n (x5 + z22) x7 (x7 + 1)
      else
        if v24 ≤ 0 then
          mX6_windows_L134 modes n (x5 + z22) x6 (x7 + 1)
        else
          mX6_windows_L134 modes n (x5 + z22) x7 (x7 + 1)
def mX6_windows (thrown : Int32) (value : Nat → Int32) (many : Int32) (ties : Int32) (often : Nat → Int32) (firstOf : Nat → Int32) (lastOf : Nat → Int32) (unlikes : Nat → Int32) (unlikeMany : Int32) (modes : Nat → Int32) (x1 : Int32) (x2 : Int32) : Option (Int32 × Int32 × (Nat → Int32) × (Nat → Int32) × (Nat → Int32) × (Nat → Int32) × Int32 × (Nat → Int32)) :=
  if x1 < 1 then
    some ((-1), 0, often, firstOf, lastOf, unlikes, unlikeMany, modes)
  else
    if many < x1 then
      some ((-1), 0, often, firstOf, lastOf, unlikes, unlikeMany, modes)
    else
      if x2 < 0 then
        some ((-1), 0, often, firstOf, lastOf, unlikes, unlikeMany, modes)
      else
        if x2 ≤ 2 then
          (mX6_windows_L31  FU 0 modes).bind fun z8 =>
          (mX6_windows_L59 value many ties x1 FU 0 (-1) 0 often firstOf lastOf unlikes unlikeMany z8).bind fun z18 =>
          (mX6_windows_L134 z18.2.2.2.2.2.2 FU 0 (-1) 0).bind fun z30 =>
          if ¬ x2 = 0 then
            if ¬ x2 = 1 then
              some (z30.2, 0, z18.2.1, z18.2.2.1, z18.2.2.2.1, z18.2.2.2.2.1, z18.2.2.2.2.2.1, z18.2.2.2.2.2.2)
            else
              some (z30.1, 0, z18.2.1, z18.2.2.1, z18.2.2.2.1, z18.2.2.2.2.1, z18.2.2.2.2.2.1, z18.2.2.2.2.2.2)
          else
            some (z18.1, 0, z18.2.1, z18.2.2.1, z18.2.2.2.1, z18.2.2.2.2.1, z18.2.2.2.2.2.1, z18.2.2.2.2.2.2)
        else
          some ((-1), 0, often, firstOf, lastOf, unlikes, unlikeMany, modes)
def mX6_stands (often : Nat → Int32) (firstOf : Nat → Int32) (lastOf : Nat → Int32) (unlikes : Nat → Int32) (unlikeMany : Int32) (x1 : Int32) (x2 : Int32) : Option ((Nat → Int32) × (Nat → Int32) × (Nat → Int32) × (Nat → Int32) × Int32) :=
  (rd often 1000 x1).bind fun v1 =>
  (if ¬ v1 = 0 then
    some (firstOf, unlikes, unlikeMany)
  else
    (wr firstOf 1000 x1 x2).bind fun a8 =>
    (wr unlikes 120 unlikeMany x1).bind fun a9 =>
    some (a8, a9, (unlikeMany + 1))).bind fun (z2 : (Nat → Int32) × (Nat → Int32) × Int32) =>
  (wr lastOf 1000 x1 x2).bind fun a4 =>
  (rd often 1000 x1).bind fun v5 =>
  (wr often 1000 x1 (v5 + 1)).bind fun a6 =>
  some (a6, z2.1, a4, z2.2.1, z2.2.2)
def mX6_longer (value : Nat → Int32) (ties : Int32) (often : Nat → Int32) (firstOf : Nat → Int32) (lastOf : Nat → Int32) (unlikes : Nat → Int32) (unlikeMany : Int32) (x1 : Int32) (x2 : Int32) : Option (Int32 × (Nat → Int32) × (Nat → Int32) × (Nat → Int32) × (Nat → Int32) × Int32) :=
  (if ¬ x1 = x2 then
    (rd value 120 x2).bind fun v5 =>
    (mX6_stands often firstOf lastOf unlikes unlikeMany v5 x2).bind fun q6 =>
    some (q6.1, q6.2.1, q6.2.2.1, q6.2.2.2.1, q6.2.2.2.2)
  else
    (mX6_counts value often firstOf lastOf unlikes unlikeMany x1 x2 (-1)).bind fun q7 =>
    some (q7.1, q7.2.1, q7.2.2.1, q7.2.2.2.1, q7.2.2.2.2)).bind fun (z1 : (Nat → Int32) × (Nat → Int32) × (Nat → Int32) × (Nat → Int32) × Int32) =>
  (mX6_modeBy z1.1 z1.2.1 z1.2.2.1 z1.2.2.2.1 z1.2.2.2.2 ties).bind fun q3 =>
  some (q3, z1.1, z1.2.1, z1.2.2.1, z1.2.2.2.1, z1.2.2.2.2)
def mX6_spans_L29 (value : Nat → Int32) (many : Int32) (ties : Int32) (x1 : Int32) (x3 : Int32) : Nat → Int32 → Int32 → (Nat → Int32) → (Nat → Int32) → (Nat → Int32) → (Nat → Int32) → Int32 → Option (Int32 × (Nat → Int32) × (Nat → Int32) × (Nat → Int32) × (Nat → Int32) × Int32)
  | 0, _, _, _, _, _, _, _ => none
  | n + 1, x2, x4, often, firstOf, lastOf, unlikes, unlikeMany =>
    if many ≤ x4 then
      some (x2, often, firstOf, lastOf, unlikes, unlikeMany)
    else
      (mX6_longer value ties often firstOf lastOf unlikes unlikeMany x3 x4).bind fun q7 =>
      if ¬ q7.1 = x1 then
        mX6_spans_L29 value many ties x1 x3 n (x2 + 0) (x4 + 1) q7.2.1 q7.2.2.1 q7.2.2.2.1 q7.2.2.2.2.1 q7.2.2.2.2.2
      else
        mX6_spans_L29 value many ties x1 x3 n (x2 + 1) (x4 + 1) q7.2.1 q7.2.2.1 q7.2.2.2.1 q7.2.2.2.2.1 q7.2.2.2.2.2
def mX6_spans_L18 (value : Nat → Int32) (many : Int32) (ties : Int32) (x1 : Int32) : Nat → Int32 → Int32 → (Nat → Int32) → (Nat → Int32) → (Nat → Int32) → (Nat → Int32) → Int32 → Option (Int32 × (Nat → Int32) × (Nat → Int32) × (Nat → Int32) × (Nat → Int32) × Int32)
  | 0, _, _, _, _, _, _, _ => none
  | n + 1, x2, x3, often, firstOf, lastOf, unlikes, unlikeMany =>
    if many ≤ x3 then
      some (x2, often, firstOf, lastOf, unlikes, unlikeMany)
    else
      (mX6_spans_L29 value many ties x1 x3 FU x2 x3 often firstOf lastOf unlikes unlikeMany).bind fun z9 =>
      mX6_spans_L18 value many ties x1 n z9.1 (x3 + 1) z9.2.1 z9.2.2.1 z9.2.2.2.1 z9.2.2.2.2.1 z9.2.2.2.2.2
def mX6_spans (thrown : Int32) (value : Nat → Int32) (many : Int32) (ties : Int32) (often : Nat → Int32) (firstOf : Nat → Int32) (lastOf : Nat → Int32) (unlikes : Nat → Int32) (unlikeMany : Int32) (x1 : Int32) : Option (Int32 × Int32 × (Nat → Int32) × (Nat → Int32) × (Nat → Int32) × (Nat → Int32) × Int32) :=
  (mX6_isValue x1).bind fun q1 =>
  if ¬ q1 = 0 then
    (mX6_spans_L18 value many ties x1 FU 0 0 often firstOf lastOf unlikes unlikeMany).bind fun z10 =>
    some (z10.1, 0, z10.2.1, z10.2.2.1, z10.2.2.2.1, z10.2.2.2.2.1, z10.2.2.2.2.2)
  else
    some ((-1), 0, often, firstOf, lastOf, unlikes, unlikeMany)
def mX6_longest_L45 (value : Nat → Int32) (many : Int32) (ties : Int32) (x1 : Int32) (x5 : Int32) : Nat → Int32 → Int32 → Int32 → (Nat → Int32) → (Nat → Int32) → (Nat → Int32) → (Nat → Int32) → Int32 → Option (Int32 × Int32 × (Nat → Int32) × (Nat → Int32) × (Nat → Int32) × (Nat → Int32) × Int32)
  | 0, _, _, _, _, _, _, _, _ => none
  | n + 1, x3, x4, x6, often, firstOf, lastOf, unlikes, unlikeMany =>
    if many ≤ x6 then
      some (x3, x4, often, firstOf, lastOf, unlikes, unlikeMany)
    else
      (mX6_longer value ties often firstOf lastOf unlikes unlikeMany x5 x6).bind fun q9 =>
      if ¬ q9.1 = x1 then
        mX6_longest_L45 value many ties x1 x5 n x3 x4 (x6 + 1) q9.2.1 q9.2.2.1 q9.2.2.2.1 q9.2.2.2.2.1 q9.2.2.2.2.2
      else
        if x4 < ((x6 - x5) + 1) then
          mX6_longest_L45 value many ties x1 x5 n x5 ((x6 - x5) + 1) (x6 + 1) q9.2.1 q9.2.2.1 q9.2.2.2.1 q9.2.2.2.2.1 q9.2.2.2.2.2
        else
          mX6_longest_L45 value many ties x1 x5 n x3 x4 (x6 + 1) q9.2.1 q9.2.2.1 q9.2.2.2.1 q9.2.2.2.2.1 q9.2.2.2.2.2
def mX6_longest_L32 (value : Nat → Int32) (many : Int32) (ties : Int32) (x1 : Int32) : Nat → Int32 → Int32 → Int32 → (Nat → Int32) → (Nat → Int32) → (Nat → Int32) → (Nat → Int32) → Int32 → Option (Int32 × Int32 × (Nat → Int32) × (Nat → Int32) × (Nat → Int32) × (Nat → Int32) × Int32)
  | 0, _, _, _, _, _, _, _, _ => none
  | n + 1, x3, x4, x5, often, firstOf, lastOf, unlikes, unlikeMany =>
    if many ≤ x5 then
      some (x3, x4, often, firstOf, lastOf, unlikes, unlikeMany)
    else
      (mX6_longest_L45 value many ties x1 x5 FU x3 x4 x5 often firstOf lastOf unlikes unlikeMany).bind fun z12 =>
      mX6_longest_L32 value many ties x1 n z12.1 z12.2.1 (x5 + 1) z12.2.2.1 z12.2.2.2.1 z12.2.2.2.2.1 z12.2.2.2.2.2.1 z12.2.2.2.2.2.2
def mX6_longest (thrown : Int32) (value : Nat → Int32) (many : Int32) (ties : Int32) (often : Nat → Int32) (firstOf : Nat → Int32) (lastOf : Nat → Int32) (unlikes : Nat → Int32) (unlikeMany : Int32) (x1 : Int32) (x2 : Int32) : Option (Int32 × Int32 × (Nat → Int32) × (Nat → Int32) × (Nat → Int32) × (Nat → Int32) × Int32) :=
  (mX6_isValue x1).bind fun q1 =>
  if q1 = 0 then
    some ((-1), 0, often, firstOf, lastOf, unlikes, unlikeMany)
  else
    if x2 < 0 then
      some ((-1), 0, often, firstOf, lastOf, unlikes, unlikeMany)
    else
      if x2 ≤ 1 then
        (mX6_longest_L32 value many ties x1 FU (-2) 0 0 often firstOf lastOf unlikes unlikeMany).bind fun z13 =>
        if z13.1 = (-2) then
          some (z13.1, 0, z13.2.2.1, z13.2.2.2.1, z13.2.2.2.2.1, z13.2.2.2.2.2.1, z13.2.2.2.2.2.2)
        else
          if ¬ x2 = 0 then
            some (((z13.1 + z13.2.1) - 1), 0, z13.2.2.1, z13.2.2.2.1, z13.2.2.2.2.1, z13.2.2.2.2.2.1, z13.2.2.2.2.2.2)
          else
            some (z13.1, 0, z13.2.2.1, z13.2.2.2.1, z13.2.2.2.2.1, z13.2.2.2.2.2.1, z13.2.2.2.2.2.2)
      else
        some ((-1), 0, often, firstOf, lastOf, unlikes, unlikeMany)
def mX6_tightest_L47 (value : Nat → Int32) (many : Int32) (x1 : Int32) (x5 : Int32) : Nat → Int32 → Int32 → Option (Int32 × Int32)
  | 0, _, _ => none
  | n + 1, x6, x7 =>
    if many ≤ x7 then
      some (x6, x7)
    else
      if x1 ≤ x6 then
        some (x6, x7)
      else
        (rd value 120 x7).bind fun v9 =>
        (rd value 120 x5).bind fun v10 =>
        if ¬ v9 = v10 then
          mX6_tightest_L47 value many x1 x5 n (x6 + 0) (x7 + 1)
        else
          mX6_tightest_L47 value many x1 x5 n (x6 + 1) (x7 + 1)
def mX6_tightest_L31 (value : Nat → Int32) (many : Int32) (x1 : Int32) : Nat → Int32 → Int32 → Int32 → Option (Int32 × Int32)
  | 0, _, _, _ => none
  | n + 1, x3, x4, x5 =>
    if many ≤ x5 then
      some (x3, x4)
    else
      (mX6_tightest_L47 value many x1 x5 FU 0 x5).bind fun z12 =>
      if z12.1 < x1 then
        mX6_tightest_L31 value many x1 n x3 x4 (x5 + 1)
      else
        if (z12.2 - x5) < x4 then
          mX6_tightest_L31 value many x1 n x5 (z12.2 - x5) (x5 + 1)
        else
          mX6_tightest_L31 value many x1 n x3 x4 (x5 + 1)
def mX6_tightest (thrown : Int32) (value : Nat → Int32) (many : Int32) (x1 : Int32) (x2 : Int32) : Option (Int32 × Int32) :=
  if x1 < 1 then
    some ((-1), 0)
  else
    if x2 < 0 then
      some ((-1), 0)
    else
      if x2 ≤ 2 then
        (mX6_tightest_L31 value many x1 FU (-2) 121 0).bind fun z15 =>
        if z15.1 = (-2) then
          some (z15.1, 0)
        else
          if ¬ x2 = 0 then
            if ¬ x2 = 1 then
              (rd value 120 z15.1).bind fun v19 =>
              some (v19, 0)
            else
              some (((z15.1 + z15.2) - 1), 0)
          else
            some (z15.1, 0)
      else
        some ((-1), 0)
def mX6_over_L5 (often : Nat → Int32) (unlikes : Nat → Int32) (unlikeMany : Int32) (x1 : Int32) (x2 : Int32) : Nat → Int32 → Int32 → Option (Int32)
  | 0, _, _ => none
  | n + 1, x3, x4 =>
    if unlikeMany ≤ x4 then
      some x3
    else
      (rd unlikes 120 x4).bind fun v3 =>
      if v3 = x2 then
        mX6_over_L5 often unlikes unlikeMany x1 x2 n (x3 + 0) (x4 + 1)
      else
        (rd often 1000 v3).bind fun v5 =>
        if v5 ≤ x1 then
          mX6_over_L5 often unlikes unlikeMany x1 x2 n (x3 + 0) (x4 + 1)
        else
          (rd often 1000 v3).bind fun v7 =>
          mX6_over_L5 often unlikes unlikeMany x1 x2 n (x3 + (v7 - x1)) (x4 + 1)
def mX6_over (often : Nat → Int32) (unlikes : Nat → Int32) (unlikeMany : Int32) (x1 : Int32) (x2 : Int32) : Option (Int32) :=
  (mX6_over_L5 often unlikes unlikeMany x1 x2 FU 0 0).bind fun z8 =>
  some z8
def mX6_needed_L33 (often : Nat → Int32) (unlikes : Nat → Int32) (unlikeMany : Int32) (x3 : Int32) : Nat → Int32 → Option (Int32)
  | 0, _ => none
  | n + 1, x4 =>
    (rd often 1000 x3).bind fun v7 =>
    (mX6_over often unlikes unlikeMany ((v7 + x4) - 1) x3).bind fun q8 =>
    if q8 ≤ x4 then
      some x4
    else
      mX6_needed_L33 often unlikes unlikeMany x3 n (x4 + 1)
def mX6_needed (thrown : Int32) (value : Nat → Int32) (many : Int32) (often : Nat → Int32) (firstOf : Nat → Int32) (lastOf : Nat → Int32) (unlikes : Nat → Int32) (unlikeMany : Int32) (x1 : Int32) (x2 : Int32) (x3 : Int32) : Option (Int32 × Int32 × (Nat → Int32) × (Nat → Int32) × (Nat → Int32) × (Nat → Int32) × Int32) :=
  (mX6_isSpan many x1 x2).bind fun q1 =>
  if q1 = 0 then
    some ((-1), 0, often, firstOf, lastOf, unlikes, unlikeMany)
  else
    (mX6_isValue x3).bind fun q3 =>
    if ¬ q3 = 0 then
      (mX6_counts value often firstOf lastOf unlikes unlikeMany x1 x2 (-1)).bind fun q5 =>
      (mX6_needed_L33 q5.1 q5.2.2.2.1 q5.2.2.2.2 x3 FU 0).bind fun z10 =>
      some (z10, 0, q5.1, q5.2.1, q5.2.2.1, q5.2.2.2.1, q5.2.2.2.2)
    else
      some ((-1), 0, often, firstOf, lastOf, unlikes, unlikeMany)
def mX6_lead (thrown : Int32) (value : Nat → Int32) (many : Int32) (ties : Int32) (often : Nat → Int32) (firstOf : Nat → Int32) (lastOf : Nat → Int32) (unlikes : Nat → Int32) (unlikeMany : Int32) (x1 : Int32) (x2 : Int32) : Option (Int32 × Int32 × (Nat → Int32) × (Nat → Int32) × (Nat → Int32) × (Nat → Int32) × Int32) :=
  (mX6_isSpan many x1 x2).bind fun q1 =>
  if ¬ q1 = 0 then
    (mX6_counts value often firstOf lastOf unlikes unlikeMany x1 x2 (-1)).bind fun q3 =>
    (mX6_ofRank q3.1 q3.2.1 q3.2.2.1 q3.2.2.2.1 q3.2.2.2.2 1 ties).bind fun q4 =>
    (mX6_ofRank q3.1 q3.2.1 q3.2.2.1 q3.2.2.2.1 q3.2.2.2.2 0 ties).bind fun q5 =>
    (rd q3.1 1000 q5).bind fun v6 =>
    if ¬ q4 = (-1) then
      (rd q3.1 1000 q4).bind fun v8 =>
      some ((v6 - v8), 0, q3.1, q3.2.1, q3.2.2.1, q3.2.2.2.1, q3.2.2.2.2)
    else
      some ((v6 - 0), 0, q3.1, q3.2.1, q3.2.2.1, q3.2.2.2.1, q3.2.2.2.2)
  else
    some ((-1), 0, often, firstOf, lastOf, unlikes, unlikeMany)
def mX6_rarest (thrown : Int32) (value : Nat → Int32) (many : Int32) (ties : Int32) (often : Nat → Int32) (firstOf : Nat → Int32) (lastOf : Nat → Int32) (unlikes : Nat → Int32) (unlikeMany : Int32) (x1 : Int32) (x2 : Int32) (x3 : Int32) : Option (Int32 × Int32 × (Nat → Int32) × (Nat → Int32) × (Nat → Int32) × (Nat → Int32) × Int32) :=
  (mX6_isSpan many x1 x2).bind fun q1 =>
  if q1 = 0 then
    some ((-1), 0, often, firstOf, lastOf, unlikes, unlikeMany)
  else
    if x3 < 0 then
      some ((-1), 0, often, firstOf, lastOf, unlikes, unlikeMany)
    else
      if x3 ≤ 3 then
        (mX6_counts value often firstOf lastOf unlikes unlikeMany x1 x2 (-1)).bind fun q5 =>
        (mX6_ofRank q5.1 q5.2.1 q5.2.2.1 q5.2.2.2.1 q5.2.2.2.2 (q5.2.2.2.2 - 1) ties).bind fun q6 =>
        (mX6_told q5.1 q5.2.1 q5.2.2.1 q6 x3).bind fun q7 =>
        some (q7, 0, q5.1, q5.2.1, q5.2.2.1, q5.2.2.2.1, q5.2.2.2.2)
      else
        some ((-1), 0, often, firstOf, lastOf, unlikes, unlikeMany)
def mX6_follow_L25 (value : Nat → Int32) (many : Int32) (x1 : Int32) (x3 : Int32) : Nat → Int32 → Option (Int32)
  | 0, _ => none
  | n + 1, x4 =>
    (mX6_isPlace many x4).bind fun q6 =>
    if q6 = 0 then
      some x4
    else
      (rd value 120 x4).bind fun v8 =>
      if v8 = x1 then
        some x4
      else
        if x3 = 0 then
          mX6_follow_L25 value many x1 x3 n (x4 + 1)
        else
          mX6_follow_L25 value many x1 x3 n (x4 + (-1))
def mX6_follow (thrown : Int32) (value : Nat → Int32) (many : Int32) (x1 : Int32) (x2 : Int32) (x3 : Int32) : Option (Int32 × Int32) :=
  (mX6_isValue x1).bind fun q1 =>
  if q1 = 0 then
    some ((-1), 0)
  else
    (mX6_isPlace many x2).bind fun q3 =>
    if ¬ q3 = 0 then
      (mX6_follow_L25 value many x1 x3 FU x2).bind fun z11 =>
      (mX6_isPlace many z11).bind fun q12 =>
      if q12 = 0 then
        some ((-2), 0)
      else
        some (z11, 0)
    else
      some ((-1), 0)
def mX6_split_L39 (value : Nat → Int32) (ties : Int32) (x1 : Int32) (x2 : Int32) : Nat → Int32 → Int32 → Int32 → (Nat → Int32) → (Nat → Int32) → (Nat → Int32) → (Nat → Int32) → Int32 → Option (Int32 × Int32 × (Nat → Int32) × (Nat → Int32) × (Nat → Int32) × (Nat → Int32) × Int32)
  | 0, _, _, _, _, _, _, _, _ => none
  | n + 1, x4, x5, x6, often, firstOf, lastOf, unlikes, unlikeMany =>
    if x2 ≤ x6 then
      some (x4, x5, often, firstOf, lastOf, unlikes, unlikeMany)
    else
      (mX6_modeOf value ties often firstOf lastOf unlikes unlikeMany x1 x6).bind fun q8 =>
      (rd q8.2.1 1000 q8.1).bind fun v9 =>
      (mX6_modeOf value ties q8.2.1 q8.2.2.1 q8.2.2.2.1 q8.2.2.2.2.1 q8.2.2.2.2.2 (x6 + 1) x2).bind fun q10 =>
      (rd q10.2.1 1000 q10.1).bind fun v11 =>
      if x5 < (v9 + v11) then
        mX6_split_L39 value ties x1 x2 n x6 (v9 + v11) (x6 + 1) q10.2.1 q10.2.2.1 q10.2.2.2.1 q10.2.2.2.2.1 q10.2.2.2.2.2
      else
        mX6_split_L39 value ties x1 x2 n x4 x5 (x6 + 1) q10.2.1 q10.2.2.1 q10.2.2.2.1 q10.2.2.2.2.1 q10.2.2.2.2.2
def mX6_split (thrown : Int32) (value : Nat → Int32) (many : Int32) (ties : Int32) (often : Nat → Int32) (firstOf : Nat → Int32) (lastOf : Nat → Int32) (unlikes : Nat → Int32) (unlikeMany : Int32) (x1 : Int32) (x2 : Int32) (x3 : Int32) : Option (Int32 × Int32 × (Nat → Int32) × (Nat → Int32) × (Nat → Int32) × (Nat → Int32) × Int32) :=
  (mX6_isSpan many x1 x2).bind fun q1 =>
  if q1 = 0 then
    some ((-1), 0, often, firstOf, lastOf, unlikes, unlikeMany)
  else
    if x1 = x2 then
      some ((-1), 0, often, firstOf, lastOf, unlikes, unlikeMany)
    else
      if x3 < 0 then
        some ((-1), 0, often, firstOf, lastOf, unlikes, unlikeMany)
      else
        if x3 ≤ 1 then
          (mX6_split_L39 value ties x1 x2 FU x1 (-1) x1 often firstOf lastOf unlikes unlikeMany).bind fun z13 =>
          if ¬ x3 = 0 then
            some (z13.2.1, 0, z13.2.2.1, z13.2.2.2.1, z13.2.2.2.2.1, z13.2.2.2.2.2.1, z13.2.2.2.2.2.2)
          else
            some (z13.1, 0, z13.2.2.1, z13.2.2.2.1, z13.2.2.2.2.1, z13.2.2.2.2.2.1, z13.2.2.2.2.2.2)
        else
          some ((-1), 0, often, firstOf, lastOf, unlikes, unlikeMany)
def mX6_together_L50 (value : Nat → Int32) (x2 : Int32) : Nat → Int32 → Int32 → (Nat → Int32) → (Nat → Int32) → (Nat → Int32) → (Nat → Int32) → Int32 → Option (Int32 × (Nat → Int32) × (Nat → Int32) × (Nat → Int32) × (Nat → Int32) × Int32)
  | 0, _, _, _, _, _, _, _ => none
  | n + 1, x6, x7, often, firstOf, lastOf, unlikes, unlikeMany =>
    if x2 < x7 then
      some (x6, often, firstOf, lastOf, unlikes, unlikeMany)
    else
      (rd value 120 x7).bind fun v10 =>
      (mX6_stands often firstOf lastOf unlikes unlikeMany v10 x6).bind fun q11 =>
      mX6_together_L50 value x2 n (x6 + 1) (x7 + 1) q11.1 q11.2.1 q11.2.2.1 q11.2.2.2.1 q11.2.2.2.2
def mX6_together_L81 (value : Nat → Int32) (x1 : Int32) (x2 : Int32) (x4 : Int32) : Nat → Int32 → Int32 → (Nat → Int32) → (Nat → Int32) → (Nat → Int32) → (Nat → Int32) → Int32 → Option ((Nat → Int32) × (Nat → Int32) × (Nat → Int32) × (Nat → Int32) × Int32)
  | 0, _, _, _, _, _, _, _ => none
  | n + 1, x6, x7, often, firstOf, lastOf, unlikes, unlikeMany =>
    if x4 < x7 then
      some (often, firstOf, lastOf, unlikes, unlikeMany)
    else
      if x7 < x1 then
        (rd value 120 x7).bind fun v16 =>
        (mX6_stands often firstOf lastOf unlikes unlikeMany v16 x6).bind fun q17 =>
        mX6_together_L81 value x1 x2 x4 n (x6 + 1) (x7 + 1) q17.1 q17.2.1 q17.2.2.1 q17.2.2.2.1 q17.2.2.2.2
      else
        if x2 < x7 then
          (rd value 120 x7).bind fun v19 =>
          (mX6_stands often firstOf lastOf unlikes unlikeMany v19 x6).bind fun q20 =>
          mX6_together_L81 value x1 x2 x4 n (x6 + 1) (x7 + 1) q20.1 q20.2.1 q20.2.2.1 q20.2.2.2.1 q20.2.2.2.2
        else
          mX6_together_L81 value x1 x2 x4 n x6 (x7 + 1) often firstOf lastOf unlikes unlikeMany
def mX6_together (thrown : Int32) (value : Nat → Int32) (many : Int32) (ties : Int32) (often : Nat → Int32) (firstOf : Nat → Int32) (lastOf : Nat → Int32) (unlikes : Nat → Int32) (unlikeMany : Int32) (x1 : Int32) (x2 : Int32) (x3 : Int32) (x4 : Int32) (x5 : Int32) : Option (Int32 × Int32 × (Nat → Int32) × (Nat → Int32) × (Nat → Int32) × (Nat → Int32) × Int32) :=
  (mX6_isSpan many x1 x2).bind fun q1 =>
  if q1 = 0 then
    some ((-1), 0, often, firstOf, lastOf, unlikes, unlikeMany)
  else
    (mX6_isSpan many x3 x4).bind fun q3 =>
    if q3 = 0 then
      some ((-1), 0, often, firstOf, lastOf, unlikes, unlikeMany)
    else
      if x5 < 0 then
        some ((-1), 0, often, firstOf, lastOf, unlikes, unlikeMany)
      else
        if x5 ≤ 1 then
          (mX6_counts value often firstOf lastOf unlikes unlikeMany 0 (-1) (-1)).bind fun q7 =>
          (mX6_together_L50 value x2 FU 0 x1 q7.1 q7.2.1 q7.2.2.1 q7.2.2.2.1 q7.2.2.2.2).bind fun z12 =>
          (mX6_together_L81 value x1 x2 x4 FU z12.1 x3 z12.2.1 z12.2.2.1 z12.2.2.2.1 z12.2.2.2.2.1 z12.2.2.2.2.2).bind fun z21 =>
          (mX6_modeBy z21.1 z21.2.1 z21.2.2.1 z21.2.2.2.1 z21.2.2.2.2 ties).bind fun q22 =>
          (mX6_told z21.1 z21.2.1 z21.2.2.1 q22 x5).bind fun q23 =>
          some (q23, 0, z21.1, z21.2.1, z21.2.2.1, z21.2.2.2.1, z21.2.2.2.2)
        else
          some ((-1), 0, often, firstOf, lastOf, unlikes, unlikeMany)
def mX6_agree (thrown : Int32) (value : Nat → Int32) (many : Int32) (ties : Int32) (often : Nat → Int32) (firstOf : Nat → Int32) (lastOf : Nat → Int32) (unlikes : Nat → Int32) (unlikeMany : Int32) (x1 : Int32) (x2 : Int32) (x3 : Int32) : Option (Int32 × Int32 × (Nat → Int32) × (Nat → Int32) × (Nat → Int32) × (Nat → Int32) × Int32) :=
  (mX6_isSpan many x1 x2).bind fun q1 =>
  if q1 = 0 then
    some ((-1), 0, often, firstOf, lastOf, unlikes, unlikeMany)
  else
    (mX6_isSpan many (x2 + 1) x3).bind fun q3 =>
    if ¬ q3 = 0 then
      (mX6_modeOf value ties often firstOf lastOf unlikes unlikeMany x1 x2).bind fun q5 =>
      (mX6_modeOf value ties q5.2.1 q5.2.2.1 q5.2.2.2.1 q5.2.2.2.2.1 q5.2.2.2.2.2 (x2 + 1) x3).bind fun q6 =>
      if ¬ q6.1 = q5.1 then
        some (0, 0, q6.2.1, q6.2.2.1, q6.2.2.2.1, q6.2.2.2.2.1, q6.2.2.2.2.2)
      else
        some (1, 0, q6.2.1, q6.2.2.1, q6.2.2.2.1, q6.2.2.2.2.1, q6.2.2.2.2.2)
    else
      some ((-1), 0, often, firstOf, lastOf, unlikes, unlikeMany)
def mX6_peeled_L48 (ties : Int32) (often : Nat → Int32) (firstOf : Nat → Int32) (lastOf : Nat → Int32) (unlikes : Nat → Int32) (unlikeMany : Int32) (x3 : Int32) : Nat → Int32 → Int32 → Option (Int32)
  | 0, _, _ => none
  | n + 1, x4, x5 =>
    if x3 ≤ x5 then
      some x4
    else
      (mX6_ofRank often firstOf lastOf unlikes unlikeMany x5 ties).bind fun q8 =>
      (rd often 1000 q8).bind fun v9 =>
      mX6_peeled_L48 ties often firstOf lastOf unlikes unlikeMany x3 n (x4 - v9) (x5 + 1)
def mX6_peeled (thrown : Int32) (value : Nat → Int32) (many : Int32) (ties : Int32) (often : Nat → Int32) (firstOf : Nat → Int32) (lastOf : Nat → Int32) (unlikes : Nat → Int32) (unlikeMany : Int32) (x1 : Int32) (x2 : Int32) (x3 : Int32) : Option (Int32 × Int32 × (Nat → Int32) × (Nat → Int32) × (Nat → Int32) × (Nat → Int32) × Int32) :=
  (mX6_isSpan many x1 x2).bind fun q1 =>
  if q1 = 0 then
    some ((-1), 0, often, firstOf, lastOf, unlikes, unlikeMany)
  else
    if 0 ≤ x3 then
      (mX6_counts value often firstOf lastOf unlikes unlikeMany x1 x2 (-1)).bind fun q4 =>
      if x3 ≤ q4.2.2.2.2 then
        (mX6_peeled_L48 ties q4.1 q4.2.1 q4.2.2.1 q4.2.2.2.1 q4.2.2.2.2 x3 FU ((x2 - x1) + 1) 0).bind fun z10 =>
        some (z10, 0, q4.1, q4.2.1, q4.2.2.1, q4.2.2.2.1, q4.2.2.2.2)
      else
        some ((-2), 0, q4.1, q4.2.1, q4.2.2.1, q4.2.2.2.1, q4.2.2.2.2)
    else
      some ((-1), 0, often, firstOf, lastOf, unlikes, unlikeMany)
def mX6_gap_L22 (value : Nat → Int32) (many : Int32) (x1 : Int32) : Nat → Int32 → Int32 → Int32 → Option (Int32)
  | 0, _, _, _ => none
  | n + 1, x2, x3, x4 =>
    if many ≤ x4 then
      some x2
    else
      (rd value 120 x4).bind fun v5 =>
      if v5 = x1 then
        if x3 = (-1) then
          mX6_gap_L22 value many x1 n x2 x4 (x4 + 1)
        else
          if (x4 - x3) ≤ x2 then
            mX6_gap_L22 value many x1 n x2 x4 (x4 + 1)
          else
            mX6_gap_L22 value many x1 n (x4 - x3) x4 (x4 + 1)
      else
        mX6_gap_L22 value many x1 n x2 x3 (x4 + 1)
def mX6_gap (thrown : Int32) (value : Nat → Int32) (many : Int32) (x1 : Int32) : Option (Int32 × Int32) :=
  (mX6_isValue x1).bind fun q1 =>
  if ¬ q1 = 0 then
    (mX6_gap_L22 value many x1 FU (-2) (-1) 0).bind fun z9 =>
    some (z9, 0)
  else
    some ((-1), 0)
def mX6_wide_L27 (value : Nat → Int32) (many : Int32) (ties : Int32) (x1 : Int32) (x2 : Int32) : Nat → Int32 → Int32 → (Nat → Int32) → (Nat → Int32) → (Nat → Int32) → (Nat → Int32) → Int32 → Option (Int32 × (Nat → Int32) × (Nat → Int32) × (Nat → Int32) × (Nat → Int32) × Int32)
  | 0, _, _, _, _, _, _, _ => none
  | n + 1, x3, x4, often, firstOf, lastOf, unlikes, unlikeMany =>
    if many < (x4 + x2) then
      some (x3, often, firstOf, lastOf, unlikes, unlikeMany)
    else
      if x3 = 0 then
        some (x3, often, firstOf, lastOf, unlikes, unlikeMany)
      else
        (mX6_modeOf value ties often firstOf lastOf unlikes unlikeMany x4 ((x4 + x2) - 1)).bind fun q7 =>
        (rd q7.2.1 1000 q7.1).bind fun v8 =>
        if v8 < x1 then
          mX6_wide_L27 value many ties x1 x2 n 0 (x4 + 1) q7.2.1 q7.2.2.1 q7.2.2.2.1 q7.2.2.2.2.1 q7.2.2.2.2.2
        else
          mX6_wide_L27 value many ties x1 x2 n 1 (x4 + 1) q7.2.1 q7.2.2.1 q7.2.2.2.1 q7.2.2.2.2.1 q7.2.2.2.2.2
def mX6_wide_L14 (thrown : Int32) (value : Nat → Int32) (many : Int32) (ties : Int32) (x1 : Int32) : Nat → Int32 → (Nat → Int32) → (Nat → Int32) → (Nat → Int32) → (Nat → Int32) → Int32 → Option (Int32 × Int32 × (Nat → Int32) × (Nat → Int32) × (Nat → Int32) × (Nat → Int32) × Int32)
  | 0, _, _, _, _, _, _ => none
  | n + 1, x2, often, firstOf, lastOf, unlikes, unlikeMany =>
    if many < x2 then
      some ((-2), thrown, often, firstOf, lastOf, unlikes, unlikeMany)
    else
      (mX6_wide_L27 value many ties x1 x2 FU 1 0 often firstOf lastOf unlikes unlikeMany).bind fun z10 =>
      if z10.1 = 0 then
        mX6_wide_L14 thrown value many ties x1 n (x2 + 1) z10.2.1 z10.2.2.1 z10.2.2.2.1 z10.2.2.2.2.1 z10.2.2.2.2.2
      else
        some (x2, thrown, z10.2.1, z10.2.2.1, z10.2.2.2.1, z10.2.2.2.2.1, z10.2.2.2.2.2)
def mX6_wide (thrown : Int32) (value : Nat → Int32) (many : Int32) (ties : Int32) (often : Nat → Int32) (firstOf : Nat → Int32) (lastOf : Nat → Int32) (unlikes : Nat → Int32) (unlikeMany : Int32) (x1 : Int32) : Option (Int32 × Int32 × (Nat → Int32) × (Nat → Int32) × (Nat → Int32) × (Nat → Int32) × Int32) :=
  if 1 ≤ x1 then
    mX6_wide_L14 0 value many ties x1 FU 1 often firstOf lastOf unlikes unlikeMany
  else
    some ((-1), 0, often, firstOf, lastOf, unlikes, unlikeMany)
def mX6_reign_L48 (value : Nat → Int32) (many : Int32) (x1 : Int32) (x5 : Int32) : Nat → Int32 → Int32 → Int32 → Int32 → Option (Int32 × Int32)
  | 0, _, _, _, _ => none
  | n + 1, x3, x4, x6, x7 =>
    if many ≤ x7 then
      some (x3, x4)
    else
      (rd value 120 x7).bind fun v9 =>
      (if ¬ v9 = x1 then
        some 0
      else
        some 1).bind fun (z10 : Int32) =>
      if (2 * (x6 + z10)) ≤ ((x7 - x5) + 1) then
        mX6_reign_L48 value many x1 x5 n x3 x4 (x6 + z10) (x7 + 1)
      else
        if x4 < ((x7 - x5) + 1) then
          mX6_reign_L48 value many x1 x5 n x5 ((x7 - x5) + 1) (x6 + z10) (x7 + 1)
        else
          mX6_reign_L48 value many x1 x5 n x3 x4 (x6 + z10) (x7 + 1)
def mX6_reign_L32 (value : Nat → Int32) (many : Int32) (x1 : Int32) : Nat → Int32 → Int32 → Int32 → Option (Int32 × Int32)
  | 0, _, _, _ => none
  | n + 1, x3, x4, x5 =>
    if many ≤ x5 then
      some (x3, x4)
    else
      (mX6_reign_L48 value many x1 x5 FU x3 x4 0 x5).bind fun z15 =>
      mX6_reign_L32 value many x1 n z15.1 z15.2 (x5 + 1)
def mX6_reign (thrown : Int32) (value : Nat → Int32) (many : Int32) (x1 : Int32) (x2 : Int32) : Option (Int32 × Int32) :=
  (mX6_isValue x1).bind fun q1 =>
  if q1 = 0 then
    some ((-1), 0)
  else
    if x2 < 0 then
      some ((-1), 0)
    else
      if x2 ≤ 1 then
        (mX6_reign_L32 value many x1 FU (-2) 0 0).bind fun z16 =>
        if z16.1 = (-2) then
          some (z16.1, 0)
        else
          if ¬ x2 = 0 then
            some (((z16.1 + z16.2) - 1), 0)
          else
            some (z16.1, 0)
      else
        some ((-1), 0)
def mX6_beginnings_L18  : Nat → Int32 → (Nat → Int32) → Option ((Nat → Int32))
  | 0, _, _ => none
  | n + 1, x2, modes =>
    if 1000 ≤ x2 then
      some modes
    else
      (wr modes 1000 x2 0).bind fun a5 =>
      mX6_beginnings_L18  n (x2 + 1) a5
def mX6_beginnings_L58 (value : Nat → Int32) (many : Int32) (ties : Int32) : Nat → Int32 → Int32 → Int32 → Int32 → Int32 → Int32 → Int32 → (Nat → Int32) → (Nat → Int32) → (Nat → Int32) → (Nat → Int32) → Int32 → (Nat → Int32) → Option (Int32 × Int32 × Int32 × Int32 × (Nat → Int32) × (Nat → Int32) × (Nat → Int32) × (Nat → Int32) × Int32 × (Nat → Int32))
  | 0, _, _, _, _, _, _, _, _, _, _, _, _, _ => none
  | n + 1, x2, x3, x4, x5, x6, x7, x8, often, firstOf, lastOf, unlikes, unlikeMany, modes =>
    if many ≤ x8 then
      some (x2, x3, x4, x6, often, firstOf, lastOf, unlikes, unlikeMany, modes)
    else
      (mX6_longer value ties often firstOf lastOf unlikes unlikeMany 0 x8).bind fun q9 =>
      (if x8 ≤ 0 then
        some 0
      else
        if q9.1 = x7 then
          some 0
        else
          some 1).bind fun (z10 : Int32) =>
      (if z10 = 0 then
        some 0
      else
        some 1).bind fun (z12 : Int32) =>
      (if z10 = 0 then
        some x3
      else
        some x8).bind fun (z14 : Int32) =>
      (rd modes 1000 q9.1).bind fun v16 =>
      (if ¬ v16 = 0 then
        some 0
      else
        some 1).bind fun (z17 : Int32) =>
      (rd modes 1000 q9.1).bind fun v19 =>
      (wr modes 1000 q9.1 (v19 + 1)).bind fun a20 =>
      (if z10 = 0 then
        if ¬ x8 = 0 then
          some (x5 + 1)
        else
          some 0
      else
        some 0).bind fun (z21 : Int32) =>
      if z21 ≤ x6 then
        mX6_beginnings_L58 value many ties n (x2 + z12) z14 (x4 + z17) z21 x6 q9.1 (x8 + 1) q9.2.1 q9.2.2.1 q9.2.2.2.1 q9.2.2.2.2.1 q9.2.2.2.2.2 a20
      else
        mX6_beginnings_L58 value many ties n (x2 + z12) z14 (x4 + z17) z21 z21 q9.1 (x8 + 1) q9.2.1 q9.2.2.1 q9.2.2.2.1 q9.2.2.2.2.1 q9.2.2.2.2.2 a20
def mX6_beginnings (thrown : Int32) (value : Nat → Int32) (many : Int32) (ties : Int32) (often : Nat → Int32) (firstOf : Nat → Int32) (lastOf : Nat → Int32) (unlikes : Nat → Int32) (unlikeMany : Int32) (modes : Nat → Int32) (x1 : Int32) : Option (Int32 × Int32 × (Nat → Int32) × (Nat → Int32) × (Nat → Int32) × (Nat → Int32) × Int32 × (Nat → Int32)) :=
  if x1 < 0 then
    some ((-1), 0, often, firstOf, lastOf, unlikes, unlikeMany, modes)
  else
    if x1 ≤ 3 then
      (mX6_beginnings_L18  FU 0 modes).bind fun z6 =>
      (mX6_beginnings_L58 value many ties FU 0 (-2) 0 0 (-1) (-1) 0 often firstOf lastOf unlikes unlikeMany z6).bind fun z31 =>
      if ¬ x1 = 0 then
        if ¬ x1 = 1 then
          if ¬ x1 = 2 then
            if ¬ many = 0 then
              some (z31.2.2.2.1, 0, z31.2.2.2.2.1, z31.2.2.2.2.2.1, z31.2.2.2.2.2.2.1, z31.2.2.2.2.2.2.2.1, z31.2.2.2.2.2.2.2.2.1, z31.2.2.2.2.2.2.2.2.2)
            else
              some ((-2), 0, z31.2.2.2.2.1, z31.2.2.2.2.2.1, z31.2.2.2.2.2.2.1, z31.2.2.2.2.2.2.2.1, z31.2.2.2.2.2.2.2.2.1, z31.2.2.2.2.2.2.2.2.2)
          else
            some (z31.2.2.1, 0, z31.2.2.2.2.1, z31.2.2.2.2.2.1, z31.2.2.2.2.2.2.1, z31.2.2.2.2.2.2.2.1, z31.2.2.2.2.2.2.2.2.1, z31.2.2.2.2.2.2.2.2.2)
        else
          some (z31.2.1, 0, z31.2.2.2.2.1, z31.2.2.2.2.2.1, z31.2.2.2.2.2.2.1, z31.2.2.2.2.2.2.2.1, z31.2.2.2.2.2.2.2.2.1, z31.2.2.2.2.2.2.2.2.2)
      else
        some (z31.1, 0, z31.2.2.2.2.1, z31.2.2.2.2.2.1, z31.2.2.2.2.2.2.1, z31.2.2.2.2.2.2.2.1, z31.2.2.2.2.2.2.2.2.1, z31.2.2.2.2.2.2.2.2.2)
    else
      some ((-1), 0, often, firstOf, lastOf, unlikes, unlikeMany, modes)
def mX6_since_L17 (thrown : Int32) (value : Nat → Int32) (pastValue : Nat → Int32) (pastMany : Nat → Int32) (undos : Int32) (x1 : Int32) : Nat → Int32 → Option (Int32 × Int32)
  | 0, _ => none
  | n + 1, x2 =>
    if undos < x2 then
      some ((-2), thrown)
    else
      (rd pastMany 12 (undos - x2)).bind fun v5 =>
      if v5 ≤ x1 then
        some ((x2 - 1), thrown)
      else
        (rd pastValue 1440 ((120 * (undos - x2)) + x1)).bind fun v7 =>
        (rd value 120 x1).bind fun v8 =>
        if v7 = v8 then
          mX6_since_L17 thrown value pastValue pastMany undos x1 n (x2 + 1)
        else
          some ((x2 - 1), thrown)
def mX6_since (thrown : Int32) (value : Nat → Int32) (many : Int32) (pastValue : Nat → Int32) (pastMany : Nat → Int32) (undos : Int32) (x1 : Int32) : Option (Int32 × Int32) :=
  (mX6_isPlace many x1).bind fun q1 =>
  if ¬ q1 = 0 then
    mX6_since_L17 0 value pastValue pastMany undos x1 FU 1
  else
    some ((-1), 0)
def mX6_ifSet (thrown : Int32) (value : Nat → Int32) (many : Int32) (ties : Int32) (often : Nat → Int32) (firstOf : Nat → Int32) (lastOf : Nat → Int32) (unlikes : Nat → Int32) (unlikeMany : Int32) (x1 : Int32) (x2 : Int32) (x3 : Int32) (x4 : Int32) : Option (Int32 × Int32 × (Nat → Int32) × (Nat → Int32) × (Nat → Int32) × (Nat → Int32) × (Nat → Int32) × Int32) :=
  (mX6_isPlace many x1).bind fun q1 =>
  if q1 = 0 then
    some ((-1), 0, value, often, firstOf, lastOf, unlikes, unlikeMany)
  else
    (mX6_isValue x2).bind fun q3 =>
    if q3 = 0 then
      some ((-1), 0, value, often, firstOf, lastOf, unlikes, unlikeMany)
    else
      (mX6_isSpan many x3 x4).bind fun q5 =>
      if ¬ q5 = 0 then
        (rd value 120 x1).bind fun v7 =>
        (wr value 120 x1 x2).bind fun a8 =>
        (mX6_modeOf a8 ties often firstOf lastOf unlikes unlikeMany x3 x4).bind fun q9 =>
        (wr a8 120 x1 v7).bind fun a10 =>
        some (q9.1, 0, a10, q9.2.1, q9.2.2.1, q9.2.2.2.1, q9.2.2.2.2.1, q9.2.2.2.2.2)
      else
        some ((-1), 0, value, often, firstOf, lastOf, unlikes, unlikeMany)
def mX6_ifOut (thrown : Int32) (value : Nat → Int32) (many : Int32) (ties : Int32) (often : Nat → Int32) (firstOf : Nat → Int32) (lastOf : Nat → Int32) (unlikes : Nat → Int32) (unlikeMany : Int32) (x1 : Int32) (x2 : Int32) (x3 : Int32) : Option (Int32 × Int32 × (Nat → Int32) × (Nat → Int32) × (Nat → Int32) × (Nat → Int32) × Int32) :=
  (mX6_isSpan many x2 x3).bind fun q1 =>
  if q1 = 0 then
    some ((-1), 0, often, firstOf, lastOf, unlikes, unlikeMany)
  else
    if x1 < x2 then
      some ((-1), 0, often, firstOf, lastOf, unlikes, unlikeMany)
    else
      if x1 ≤ x3 then
        (mX6_counts value often firstOf lastOf unlikes unlikeMany x2 x3 x1).bind fun q5 =>
        (mX6_modeBy q5.1 q5.2.1 q5.2.2.1 q5.2.2.2.1 q5.2.2.2.2 ties).bind fun q6 =>
        if ¬ q6 = (-1) then
          some (q6, 0, q5.1, q5.2.1, q5.2.2.1, q5.2.2.2.1, q5.2.2.2.2)
        else
          some ((-2), 0, q5.1, q5.2.1, q5.2.2.1, q5.2.2.2.1, q5.2.2.2.2)
      else
        some ((-1), 0, often, firstOf, lastOf, unlikes, unlikeMany)
def mX6_ifTies (thrown : Int32) (value : Nat → Int32) (many : Int32) (often : Nat → Int32) (firstOf : Nat → Int32) (lastOf : Nat → Int32) (unlikes : Nat → Int32) (unlikeMany : Int32) (x1 : Int32) (x2 : Int32) (x3 : Int32) : Option (Int32 × Int32 × (Nat → Int32) × (Nat → Int32) × (Nat → Int32) × (Nat → Int32) × Int32) :=
  if x1 < 0 then
    some ((-1), 0, often, firstOf, lastOf, unlikes, unlikeMany)
  else
    if 3 < x1 then
      some ((-1), 0, often, firstOf, lastOf, unlikes, unlikeMany)
    else
      (mX6_isSpan many x2 x3).bind fun q3 =>
      if ¬ q3 = 0 then
        (mX6_counts value often firstOf lastOf unlikes unlikeMany x2 x3 (-1)).bind fun q5 =>
        (mX6_modeBy q5.1 q5.2.1 q5.2.2.1 q5.2.2.2.1 q5.2.2.2.2 x1).bind fun q6 =>
        some (q6, 0, q5.1, q5.2.1, q5.2.2.1, q5.2.2.2.1, q5.2.2.2.2)
      else
        some ((-1), 0, often, firstOf, lastOf, unlikes, unlikeMany)
def mX6_part_L43 (value : Nat → Int32) (many : Int32) (ties : Int32) (x2 : Int32) : Nat → Int32 → (Nat → Int32) → (Nat → Int32) → (Nat → Int32) → (Nat → Int32) → Int32 → (Nat → Int32) → Option ((Nat → Int32) × (Nat → Int32) × (Nat → Int32) × (Nat → Int32) × Int32 × (Nat → Int32))
  | 0, _, _, _, _, _, _, _ => none
  | n + 1, x3, often, firstOf, lastOf, unlikes, unlikeMany, fewest =>
    if many ≤ x3 then
      some (often, firstOf, lastOf, unlikes, unlikeMany, fewest)
    else
      (rd fewest 121 (x3 + 1)).bind fun v8 =>
      (rd fewest 121 x2).bind fun v9 =>
      if v9 ≤ (v8 + 1) then
        mX6_part_L43 value many ties x2 n (x3 + 1) often firstOf lastOf unlikes unlikeMany fewest
      else
        (mX6_majorityOf value ties often firstOf lastOf unlikes unlikeMany x2 x3).bind fun q11 =>
        if q11.1 = (-1) then
          mX6_part_L43 value many ties x2 n (x3 + 1) q11.2.1 q11.2.2.1 q11.2.2.2.1 q11.2.2.2.2.1 q11.2.2.2.2.2 fewest
        else
          (rd fewest 121 (x3 + 1)).bind fun v13 =>
          (wr fewest 121 x2 (v13 + 1)).bind fun a14 =>
          mX6_part_L43 value many ties x2 n (x3 + 1) q11.2.1 q11.2.2.1 q11.2.2.2.1 q11.2.2.2.2.1 q11.2.2.2.2.2 a14
def mX6_part_L29 (value : Nat → Int32) (many : Int32) (ties : Int32) : Nat → Int32 → (Nat → Int32) → (Nat → Int32) → (Nat → Int32) → (Nat → Int32) → Int32 → (Nat → Int32) → Option ((Nat → Int32) × (Nat → Int32) × (Nat → Int32) × (Nat → Int32) × Int32 × (Nat → Int32))
  | 0, _, _, _, _, _, _, _ => none
  | n + 1, x2, often, firstOf, lastOf, unlikes, unlikeMany, fewest =>
    if x2 < 0 then
      some (often, firstOf, lastOf, unlikes, unlikeMany, fewest)
    else
      (wr fewest 121 x2 121).bind fun a5 =>
      (mX6_part_L43 value many ties x2 FU x2 often firstOf lastOf unlikes unlikeMany a5).bind fun z15 =>
      mX6_part_L29 value many ties n (x2 + (-1)) z15.1 z15.2.1 z15.2.2.1 z15.2.2.2.1 z15.2.2.2.2.1 z15.2.2.2.2.2
def mX6_part_L140 (value : Nat → Int32) (ties : Int32) (fewest : Nat → Int32) (x2 : Int32) : Nat → Int32 → (Nat → Int32) → (Nat → Int32) → (Nat → Int32) → (Nat → Int32) → Int32 → Option (Int32 × (Nat → Int32) × (Nat → Int32) × (Nat → Int32) × (Nat → Int32) × Int32)
  | 0, _, _, _, _, _, _ => none
  | n + 1, x4, often, firstOf, lastOf, unlikes, unlikeMany =>
    (rd fewest 121 (x4 + 1)).bind fun v22 =>
    (rd fewest 121 x2).bind fun v23 =>
    if ¬ (v22 + 1) = v23 then
      mX6_part_L140 value ties fewest x2 n (x4 + 1) often firstOf lastOf unlikes unlikeMany
    else
      (mX6_majorityOf value ties often firstOf lastOf unlikes unlikeMany x2 x4).bind fun q25 =>
      if ¬ q25.1 = (-1) then
        some (x4, q25.2.1, q25.2.2.1, q25.2.2.2.1, q25.2.2.2.2.1, q25.2.2.2.2.2)
      else
        mX6_part_L140 value ties fewest x2 n (x4 + 1) q25.2.1 q25.2.2.1 q25.2.2.2.1 q25.2.2.2.2.1 q25.2.2.2.2.2
def mX6_part_L124 (value : Nat → Int32) (many : Int32) (ties : Int32) (fewest : Nat → Int32) (x1 : Int32) : Nat → Int32 → Int32 → (Nat → Int32) → (Nat → Int32) → (Nat → Int32) → (Nat → Int32) → Int32 → Option (Int32 × (Nat → Int32) × (Nat → Int32) × (Nat → Int32) × (Nat → Int32) × Int32)
  | 0, _, _, _, _, _, _, _ => none
  | n + 1, x2, x3, often, firstOf, lastOf, unlikes, unlikeMany =>
    if x1 ≤ x3 then
      some (x2, often, firstOf, lastOf, unlikes, unlikeMany)
    else
      if many ≤ x2 then
        some (x2, often, firstOf, lastOf, unlikes, unlikeMany)
      else
        (mX6_part_L140 value ties fewest x2 FU x2 often firstOf lastOf unlikes unlikeMany).bind fun z27 =>
        mX6_part_L124 value many ties fewest x1 n (z27.1 + 1) (x3 + 1) z27.2.1 z27.2.2.1 z27.2.2.2.1 z27.2.2.2.2.1 z27.2.2.2.2.2
def mX6_part (thrown : Int32) (value : Nat → Int32) (many : Int32) (ties : Int32) (often : Nat → Int32) (firstOf : Nat → Int32) (lastOf : Nat → Int32) (unlikes : Nat → Int32) (unlikeMany : Int32) (fewest : Nat → Int32) (x1 : Int32) : Option (Int32 × Int32 × (Nat → Int32) × (Nat → Int32) × (Nat → Int32) × (Nat → Int32) × Int32 × (Nat → Int32)) :=
  if (-1) ≤ x1 then
    (wr fewest 121 many 0).bind fun a2 =>
    (mX6_part_L29 value many ties FU (many - 1) often firstOf lastOf unlikes unlikeMany a2).bind fun z16 =>
    if ¬ x1 = (-1) then
      (mX6_part_L124 value many ties z16.2.2.2.2.2 x1 FU 0 0 z16.1 z16.2.1 z16.2.2.1 z16.2.2.2.1 z16.2.2.2.2.1).bind fun z28 =>
      if many ≤ z28.1 then
        some ((-2), 0, z28.2.1, z28.2.2.1, z28.2.2.2.1, z28.2.2.2.2.1, z28.2.2.2.2.2, z16.2.2.2.2.2)
      else
        some (z28.1, 0, z28.2.1, z28.2.2.1, z28.2.2.2.1, z28.2.2.2.2.1, z28.2.2.2.2.2, z16.2.2.2.2.2)
    else
      (rd z16.2.2.2.2.2 121 0).bind fun v30 =>
      some (v30, 0, z16.1, z16.2.1, z16.2.2.1, z16.2.2.2.1, z16.2.2.2.2.1, z16.2.2.2.2.2)
  else
    some ((-1), 0, often, firstOf, lastOf, unlikes, unlikeMany, fewest)
def mX6_unlikeOf (value : Nat → Int32) (many : Int32) (often : Nat → Int32) (firstOf : Nat → Int32) (lastOf : Nat → Int32) (unlikes : Nat → Int32) (unlikeMany : Int32)  : Option (Int32 × (Nat → Int32) × (Nat → Int32) × (Nat → Int32) × (Nat → Int32) × Int32) :=
  (mX6_counts value often firstOf lastOf unlikes unlikeMany 0 (many - 1) (-1)).bind fun q1 =>
  some (q1.2.2.2.2, q1.1, q1.2.1, q1.2.2.1, q1.2.2.2.1, q1.2.2.2.2)
def mX6_weightsIn_L4 (weight : Nat → Int32) (many : Int32) : Nat → Int32 → Int32 → Option (Int32)
  | 0, _, _ => none
  | n + 1, x1, x2 =>
    if many ≤ x2 then
      some x1
    else
      (rd weight 120 x2).bind fun v3 =>
      mX6_weightsIn_L4 weight many n (x1 + v3) (x2 + 1)
def mX6_weightsIn (weight : Nat → Int32) (many : Int32)  : Option (Int32) :=
  (mX6_weightsIn_L4 weight many FU 0 0).bind fun z4 =>
  some z4
def mX6_count (thrown : Int32) (taped : Int32) (value : Nat → Int32) (weight : Nat → Int32) (many : Int32) (block : Int32) (ties : Int32) (lines : Int32) (undos : Int32) (often : Nat → Int32) (firstOf : Nat → Int32) (lastOf : Nat → Int32) (unlikes : Nat → Int32) (unlikeMany : Int32) (x1 : Int32) : Option (Int32 × Int32 × (Nat → Int32) × (Nat → Int32) × (Nat → Int32) × (Nat → Int32) × Int32) :=
  if x1 = 0 then
    some (many, 0, often, firstOf, lastOf, unlikes, unlikeMany)
  else if x1 = 1 then
    some (block, 0, often, firstOf, lastOf, unlikes, unlikeMany)
  else if x1 = 2 then
    (mX6_blocks many block).bind fun q3 =>
    some (q3, 0, often, firstOf, lastOf, unlikes, unlikeMany)
  else if x1 = 3 then
    some (ties, 0, often, firstOf, lastOf, unlikes, unlikeMany)
  else if x1 = 4 then
    some (lines, 0, often, firstOf, lastOf, unlikes, unlikeMany)
  else if x1 = 5 then
    (mX6_unlikeOf value many often firstOf lastOf unlikes unlikeMany).bind fun q7 =>
    some (q7.1, 0, q7.2.1, q7.2.2.1, q7.2.2.2.1, q7.2.2.2.2.1, q7.2.2.2.2.2)
  else if x1 = 6 then
    some (undos, 0, often, firstOf, lastOf, unlikes, unlikeMany)
  else if x1 = 7 then
    (mX6_weightsIn weight many).bind fun q10 =>
    some (q10, 0, often, firstOf, lastOf, unlikes, unlikeMany)
  else if x1 = 8 then
    some (taped, 0, often, firstOf, lastOf, unlikes, unlikeMany)
  else 
    some ((-1), 0, often, firstOf, lastOf, unlikes, unlikeMany)
def mX5_place (block : Int32) (row : RowT) (x1 : Int32) (x2 : Int32) : Option (Int32) :=
  (mX2_has row x1).bind fun q1 =>
  if ¬ q1 = 0 then
    (rd row.1 120 x1).bind fun v3 =>
    if x2 = 0 then
      some v3
    else if x2 = 1 then
      (rd row.2.1 120 x1).bind fun v5 =>
      some v5
    else if x2 = 2 then
      (idv x1 block).bind fun v7 =>
      some v7
    else if x2 = 3 then
      (mX2_howOften row v3 0 (x1 - 1)).bind fun q9 =>
      some q9
    else if x2 = 4 then
      (mX2_from row v3 (x1 + 1)).bind fun q11 =>
      some q11
    else if x2 = 5 then
      (mX2_upTo row v3 (x1 - 1)).bind fun q13 =>
      some q13
    else 
      none
  else
    none
