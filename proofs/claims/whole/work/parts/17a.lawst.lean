/-! THE LAW. The world (the 62 cells of the desk, the 18 of the reference, the one long), what holds of it ahead of each call, an argument read from the script -/
abbrev wL (cA : Nat → ClassId) (ad am : Nat → Nat) (bo : Nat) (block : Int32) (ties : Int32) (lines : Int32) (pmn : Int32) (tape : TapT) (rdr : RdrT) (rrow : RowT) (row : RowT) (next : RowT) (past : PasT) (tally : TalT) (aside : TalT) (ahead : Nat → Int32) (r_thrown : Int32) (r_tape : Nat → Int32) (r_taped : Int32) (r_value : Nat → Int32) (r_weight : Nat → Int32) (r_many : Int32) (r_block : Int32) (r_ties : Int32) (r_lines : Int32) (r_pastValue : Nat → Int32) (r_pastWeight : Nat → Int32) (r_pastMany : Nat → Int32) (r_undos : Int32) (r_fresh : Int32) (r_newValue : Nat → Int32) (r_newWeight : Nat → Int32) (r_newMany : Int32) (r_newBlock : Int32) (r_newTies : Int32) (r_newLines : Int32) (r_hasBlock : Int32) (r_hasTies : Int32) (r_size : Int32) (r_att : Int32) (r_place : Int32) (r_sort : Int32) (r_number : Int32) (r_fault : Int32) (r_faultPlace : Int32) (r_lastFault : Int32) (r_lastPlace : Int32) (r_toValue : Nat → Int32) (r_toWeight : Nat → Int32) (r_toMany : Int32) (r_often : Nat → Int32) (r_firstOf : Nat → Int32) (r_lastOf : Nat → Int32) (r_unlikes : Nat → Int32) (r_unlikeMany : Int32) (r_isCandidate : Nat → Int32) (r_modes : Nat → Int32) (r_fewest : Nat → Int32) (ou : Nat → Int64) : va_W := [(ad 0, .inr (5, [.ref (ad 1), .ref (ad 3), .ref (ad 7), .ref (ad 10), .ref (ad 13), .ref (ad 51), .ref (ad 56), .ref (ad 61), .int block, .int ties, .int lines, .int pmn])),
  (ad 1, .inr (4, [.ref (ad 2), .int tape.2.1, .int tape.2.2.1, .int tape.2.2.2.1, .int tape.2.2.2.2.1, .int tape.2.2.2.2.2.1, .int tape.2.2.2.2.2.2])),
  (ad 2, .inl (cA 1, 900, .inl tape.1)),
  (ad 3, .inr (1, [.ref (ad 4), .int rdr.1, .int rdr.2.1, .int rdr.2.2.1, .int rdr.2.2.2.1, .int rdr.2.2.2.2.1, .int rdr.2.2.2.2.2.1, .int rdr.2.2.2.2.2.2])),
  (ad 4, .inr (2, [.ref (ad 5), .ref (ad 6), .int rrow.2.2])),
  (ad 5, .inl (cA 0, 120, .inl rrow.1)),
  (ad 6, .inl (cA 0, 120, .inl rrow.2.1)),
  (ad 7, .inr (2, [.ref (ad 8), .ref (ad 9), .int row.2.2])),
  (ad 8, .inl (cA 0, 120, .inl row.1)),
  (ad 9, .inl (cA 0, 120, .inl row.2.1)),
  (ad 10, .inr (2, [.ref (ad 11), .ref (ad 12), .int next.2.2])),
  (ad 11, .inl (cA 0, 120, .inl next.1)),
  (ad 12, .inl (cA 0, 120, .inl next.2.1)),
  (ad 13, .inr (0, [.ref (ad 14), .int past.2.1, .int past.2.2])),
  (ad 14, .inl (cA 3, 12, .inr (.inr (.inr (.inr (fun k => some (ad (13 + (2 + 3 * k))))))))),
  (ad 15, .inr (2, [.ref (ad 16), .ref (ad 17), .int (past.1 0).2.2])),
  (ad 16, .inl (cA 0, 120, .inl (past.1 0).1)),
  (ad 17, .inl (cA 0, 120, .inl (past.1 0).2.1)),
  (ad 18, .inr (2, [.ref (ad 19), .ref (ad 20), .int (past.1 1).2.2])),
  (ad 19, .inl (cA 0, 120, .inl (past.1 1).1)),
  (ad 20, .inl (cA 0, 120, .inl (past.1 1).2.1)),
  (ad 21, .inr (2, [.ref (ad 22), .ref (ad 23), .int (past.1 2).2.2])),
  (ad 22, .inl (cA 0, 120, .inl (past.1 2).1)),
  (ad 23, .inl (cA 0, 120, .inl (past.1 2).2.1)),
  (ad 24, .inr (2, [.ref (ad 25), .ref (ad 26), .int (past.1 3).2.2])),
  (ad 25, .inl (cA 0, 120, .inl (past.1 3).1)),
  (ad 26, .inl (cA 0, 120, .inl (past.1 3).2.1)),
  (ad 27, .inr (2, [.ref (ad 28), .ref (ad 29), .int (past.1 4).2.2])),
  (ad 28, .inl (cA 0, 120, .inl (past.1 4).1)),
  (ad 29, .inl (cA 0, 120, .inl (past.1 4).2.1)),
  (ad 30, .inr (2, [.ref (ad 31), .ref (ad 32), .int (past.1 5).2.2])),
  (ad 31, .inl (cA 0, 120, .inl (past.1 5).1)),
  (ad 32, .inl (cA 0, 120, .inl (past.1 5).2.1)),
  (ad 33, .inr (2, [.ref (ad 34), .ref (ad 35), .int (past.1 6).2.2])),
  (ad 34, .inl (cA 0, 120, .inl (past.1 6).1)),
  (ad 35, .inl (cA 0, 120, .inl (past.1 6).2.1)),
  (ad 36, .inr (2, [.ref (ad 37), .ref (ad 38), .int (past.1 7).2.2])),
  (ad 37, .inl (cA 0, 120, .inl (past.1 7).1)),
  (ad 38, .inl (cA 0, 120, .inl (past.1 7).2.1)),
  (ad 39, .inr (2, [.ref (ad 40), .ref (ad 41), .int (past.1 8).2.2])),
  (ad 40, .inl (cA 0, 120, .inl (past.1 8).1)),
  (ad 41, .inl (cA 0, 120, .inl (past.1 8).2.1)),
  (ad 42, .inr (2, [.ref (ad 43), .ref (ad 44), .int (past.1 9).2.2])),
  (ad 43, .inl (cA 0, 120, .inl (past.1 9).1)),
  (ad 44, .inl (cA 0, 120, .inl (past.1 9).2.1)),
  (ad 45, .inr (2, [.ref (ad 46), .ref (ad 47), .int (past.1 10).2.2])),
  (ad 46, .inl (cA 0, 120, .inl (past.1 10).1)),
  (ad 47, .inl (cA 0, 120, .inl (past.1 10).2.1)),
  (ad 48, .inr (2, [.ref (ad 49), .ref (ad 50), .int (past.1 11).2.2])),
  (ad 49, .inl (cA 0, 120, .inl (past.1 11).1)),
  (ad 50, .inl (cA 0, 120, .inl (past.1 11).2.1)),
  (ad 51, .inr (3, [.ref (ad 52), .ref (ad 53), .ref (ad 54), .ref (ad 55), .int tally.2.2.2.2.1, .int tally.2.2.2.2.2.1, .int tally.2.2.2.2.2.2.1, .int tally.2.2.2.2.2.2.2])),
  (ad 52, .inl (cA 0, 1000, .inl tally.1)),
  (ad 53, .inl (cA 0, 1000, .inl tally.2.1)),
  (ad 54, .inl (cA 0, 1000, .inl tally.2.2.1)),
  (ad 55, .inl (cA 0, 120, .inl tally.2.2.2.1)),
  (ad 56, .inr (3, [.ref (ad 57), .ref (ad 58), .ref (ad 59), .ref (ad 60), .int aside.2.2.2.2.1, .int aside.2.2.2.2.2.1, .int aside.2.2.2.2.2.2.1, .int aside.2.2.2.2.2.2.2])),
  (ad 57, .inl (cA 0, 1000, .inl aside.1)),
  (ad 58, .inl (cA 0, 1000, .inl aside.2.1)),
  (ad 59, .inl (cA 0, 1000, .inl aside.2.2.1)),
  (ad 60, .inl (cA 0, 120, .inl aside.2.2.2.1)),
  (ad 61, .inl (cA 0, 121, .inl ahead)),
  (am 0, .inr (6, [.int r_thrown, .ref (am 1), .int r_taped, .ref (am 2), .ref (am 3), .int r_many, .int r_block, .int r_ties, .int r_lines, .ref (am 4), .ref (am 5), .ref (am 6), .int r_undos, .int r_fresh, .ref (am 7), .ref (am 8), .int r_newMany, .int r_newBlock, .int r_newTies, .int r_newLines, .int r_hasBlock, .int r_hasTies, .int r_size, .int r_att, .int r_place, .int r_sort, .int r_number, .int r_fault, .int r_faultPlace, .int r_lastFault, .int r_lastPlace, .ref (am 9), .ref (am 10), .int r_toMany, .ref (am 11), .ref (am 12), .ref (am 13), .ref (am 14), .int r_unlikeMany, .ref (am 15), .ref (am 16), .ref (am 17)])),
  (am 1, .inl (cA 0, 900, .inl r_tape)),
  (am 2, .inl (cA 0, 120, .inl r_value)),
  (am 3, .inl (cA 0, 120, .inl r_weight)),
  (am 4, .inl (cA 0, 1440, .inl r_pastValue)),
  (am 5, .inl (cA 0, 1440, .inl r_pastWeight)),
  (am 6, .inl (cA 0, 12, .inl r_pastMany)),
  (am 7, .inl (cA 0, 120, .inl r_newValue)),
  (am 8, .inl (cA 0, 120, .inl r_newWeight)),
  (am 9, .inl (cA 0, 121, .inl r_toValue)),
  (am 10, .inl (cA 0, 121, .inl r_toWeight)),
  (am 11, .inl (cA 0, 1000, .inl r_often)),
  (am 12, .inl (cA 0, 1000, .inl r_firstOf)),
  (am 13, .inl (cA 0, 1000, .inl r_lastOf)),
  (am 14, .inl (cA 0, 120, .inl r_unlikes)),
  (am 15, .inl (cA 2, 1000, .inl r_isCandidate)),
  (am 16, .inl (cA 0, 1000, .inl r_modes)),
  (am 17, .inl (cA 0, 121, .inl r_fewest)),
  (bo, .inl (cA 4, 1, .inr (.inl ou)))]
def LSt (D : va_G) (cA : Nat → ClassId) (ad am : Nat → Nat) (bo : Nat) (AA : Nat → Prop) (H : Heap) : Prop := ∃ (n h b t fe : Int) (V G B : Int → Int) (P : PsT) (li fr : Int32) (tape : TapT) (rdr : RdrT) (rrow row nx : RowT) (past : PasT) (T A : TalT) (ah : FnT) (th : Int32) (tp va we pv pw pm nv nw : FnT) (nm nb nt nl hbk htk sz att pl so nu fa fp : Int32) (tv tw : FnT) (tm : Int32) (o fo la un : FnT) (um : Int32) (isC md fw : FnT) (ou : Nat → Int64),
  va_P D vwCl (wL cA ad am bo (zI b) (zI t) li fr tape rdr rrow row nx past T A ah th tp (zI fe) va we (zI n) (zI b) (zI t) li pv pw pm (zI h) fr nv nw nm nb nt nl hbk htk sz att pl so nu fa fp rdr.2.2.2.1 rdr.2.2.2.2.1 tv tw tm o fo la un um isC md fw ou) H ∧ va_D AA (wL cA ad am bo (zI b) (zI t) li fr tape rdr rrow row nx past T A ah th tp (zI fe) va we (zI n) (zI b) (zI t) li pv pw pm (zI h) fr nv nw nm nb nt nl hbk htk sz att pl so nu fa fp rdr.2.2.2.1 rdr.2.2.2.2.1 tv tw tm o fo la un um isC md fw ou) ∧ Bst row past va we pv pw pm n h V G P ∧ TapB tape fe B ∧ Ar tp fe B ∧ (∀ i, 0 ≤ i → i < fe → 0 ≤ B i ∧ B i < 256) ∧ (2 ≤ b ∧ b ≤ 20) ∧ (0 ≤ t ∧ t ≤ 3) ∧ TalC T ∧ TalC A
def LCx (p : Program) (s : State) (m : MethodId) (c : Code) (D : va_G) (cA : Nat → ClassId) (adK adV : Nat → Nat) (AA : Nat → Prop) (b0 L : Nat) (xs : Nat → Int32) : Prop :=
  p.tables.exec = Jvm.exec ∧ c.code = code ∧ c.maxLocals = 7 ∧ s.vm.findClass RL = some m.cls ∧ (∀ w ∈ wsL_law0, w.before #[Value.ref b0] s = true) ∧ va_K D vwCl (TY cA) s ∧ (∀ q : Nat, s.heap.size ≤ q → AA q) ∧ va_X b0 L xs s s.heap ∧ b0 < s.heap.size ∧ ¬ AA b0 ∧ EV adK adV AA s s.heap ∧ ER adK s ∧ L ≤ 3072 ∧ (∀ w ∈ atIO.filter goodWord ++ atNS.filter goodWord, w.before #[Value.ref b0] s = true) ∧ EP AA s s.heap ∧ EC s
abbrev lvL (b0 : Nat) (ad am : Nat → Nat) (bo i : Nat) : List (Nat × Value) := [(0, .ref b0), (1, .ref (ad 0)), (2, .ref (am 0)), (3, .ref bo), (4, .int (nI i))]
def LNx (p : Program) (l : Launch) (e : Env) (s : State) (m : MethodId) (below : List Frame) (meth : Method) (c : Code) (Q : State → Prop) (D : va_G) (cA : Nat → ClassId) (ad am : Nat → Nat) (bo : Nat) (AA : Nat → Prop) (b0 i cells slots : Nat) : Prop :=
  ∀ (H : Heap) (locs : List Loc) (ls : Array Slot), LSt D cA ad am bo AA H → va_S AA s.heap H locs → lv_has ls 7 (lvL b0 ad am bo i) → W p l e room_1 s m #[Value.ref b0] below meth c H locs (cells + 1) (slots + 6) Q (F0 m 2566 ls [])
theorem la_arg {p : Program} {l : Launch} {e : Env} {s : State} {m : MethodId} {below : List Frame} {meth : Method} {c : Code} {Q : State → Prop} {D : va_G} {cA : Nat → ClassId} {adK adV ad am : Nat → Nat} {AA : Nat → Prop} {b0 L bo : Nat} {xs : Nat → Int32} (C : LCx p s m c D cA adK adV AA b0 L xs) {H : Heap} {locs : List Loc} {ls : Array Slot} {cells slots i pc : Nat} {rest : List Value} (hS : va_S AA s.heap H locs) (hl : lv_has ls 7 (lvL b0 ad am bo i)) (hi : i + 6 ≤ L) (j : Nat) (hj : j < 6) {cj : Int} (hcj : Int32.ofInt cj = nI j)
    (d0 : decode code pc = .ok (.aload_n 0, 1)) (d1 : decode code (pc + 1) = .ok (.iload 4, 2)) (d3 : decode code (pc + 3) = .ok (.iconst cj, 1)) (d4 : decode code (pc + 4) = .ok (.iadd, 1)) (d5 : decode code (pc + 5) = .ok (.iaload, 1))
    (k : W p l e room_1 s m #[Value.ref b0] below meth c H locs cells slots Q (F0 m (pc + 6) ls (.int (xs (i + j)) :: rest))) : W p l e room_1 s m #[Value.ref b0] below meth c H locs cells slots Q (F0 m pc ls rest) := by
  obtain ⟨hx, hb, hml, hown, hts, hK, hA, hX, hbl, hbA, hE, hR, hL, hPl⟩ := C
  refine lv_aload_n hx hb d0 rfl (lv_at hl 0 rfl) ?_
  refine lv_iload hx hb d1 (lv_at hl 4 rfl) ?_
  refine lv_iconst (v := nI j) hx hb d3 hcj ?_
  refine lv_iadd hx hb d4 ?_
  rw [nI_add]
  refine va_sld hx hb hX hbl hbA hS (vp_in_nI (n := i + j) (by omega) (by omega)) d5 ?_
  rw [nI_clamp (by omega)]
  exact k
def bo01 (v : Int32) : Int32 := if v = 0 then 0 else 1
theorem la_bool {p : Program} {l : Launch} {e : Env} {s : State} {m : MethodId} {below : List Frame} {meth : Method} {c : Code} {Q : State → Prop} {b0 : Nat} (hx : p.tables.exec = Jvm.exec) (hb : c.code = code) {H : Heap} {locs : List Loc} {ls : Array Slot} {cells slots pc : Nat} {v : Int32} {rest : List Value}
    (d0 : decode code pc = .ok (.ifCond .eq 7, 3)) (d3 : decode code (pc + 3) = .ok (.iconst 1, 1)) (d4 : decode code (pc + 4) = .ok (.goto 4, 3)) (d7 : decode code (pc + 7) = .ok (.iconst 0, 1))
    (k : W p l e room_1 s m #[Value.ref b0] below meth c H locs cells slots Q (F0 m (pc + 8) ls (.int (bo01 v) :: rest))) : W p l e room_1 s m #[Value.ref b0] below meth c H locs cells slots Q (F0 m pc ls (.int v :: rest)) := by
  refine lv_if_eq (tgt := pc + 7) hx hb d0 (by omega) (fun q => ?_) (fun q => ?_)
  · refine lv_iconst (v := 0) hx hb d7 (by decide) ?_
    unfold bo01 at k
    rw [if_pos q] at k
    exact k
  · refine lv_iconst (v := 1) hx hb d3 (by decide) ?_
    refine lv_goto (tgt := pc + 8) hx hb d4 (by omega) ?_
    unfold bo01 at k
    rw [if_neg q] at k
    exact k
