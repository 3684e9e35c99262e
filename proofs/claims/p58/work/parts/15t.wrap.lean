/-! counted, isSpan, edited: what stands ahead of their loops -/
theorem va_AOA.moved {ty : FieldType} {u U : State} (hvm : u.vm.Alike U.vm) (h : va_AOA ty u) : va_AOA ty U := by
  obtain ⟨comp, c, k, h1, h2, h3, h4, h5⟩ := arrayOverA_spec h
  obtain ⟨k', hk', he⟩ := hvm.2.2 _ _ h3
  have e1 := va_idx_bare U.vm comp
  have e2 := va_idx_bare u.vm comp
  first | rw [← hvm.bare_eq] at e1 | rw [hvm.bare_eq] at e1
  have hi : (U.vm.classes.findIdx? fun (x : Class) => match x.kind with | .array component _ => component == comp | _ => false) = some c := e1.symm.trans (e2.trans h2)
  have hkind : k'.kind = .array comp (.array ty) := by rw [he]; exact h4
  have f1 : U.vm.findClass (FieldType.array ty).toString = some comp := by rw [hvm.findClass]; exact h1
  have f2 : U.vm.findClass ("[" ++ (FieldType.array ty).toString) = some c := by rw [hvm.findClass]; exact h5
  unfold va_AOA Cond.before Cond.holds
  simp only [Cond.value]
  rw [f1, Option.bind_some]
  refine (congrArg (fun o : Option Nat => (o.bind (fun c => (U.vm.classes[c]?).map fun (k : Class) => match k.kind with | .array _ ty' => decide (ty' = FieldType.array ty) && decide (U.vm.findClass ("[" ++ (FieldType.array ty).toString) = some c) | _ => false) == some true)) hi).trans ?_
  simp [hk', hkind, f2]
def EA : (Nat → Prop) → State → Heap → Prop := fun _ U _ => va_AOA .int U
theorem EA_ok : EOK EA := ⟨fun _ _ _ _ hW h => va_AOA.moved hW.alike h, fun _ u U _ hv h => va_AOA.moved (by rw [hv]; exact Vm.Alike.refl _) h, fun _ _ _ _ _ h => h, fun _ _ _ _ _ h => h⟩
def EI : (Nat → Prop) → State → Heap → Prop := fun _ U _ => va_AOA .int U ∧ va_Nw (.castable "[I" "java/lang/Cloneable") U
theorem EI_ok : EOK EI := ⟨fun _ _ _ _ hW h => ⟨va_AOA.moved hW.alike h.1, va_Nw.warmC hW h.2⟩, fun _ u U _ hv h => ⟨va_AOA.moved (by rw [hv]; exact Vm.Alike.refl _) h.1, va_Nw.same rfl hv.symm h.2⟩, fun _ _ _ _ _ h => h, fun _ _ _ _ _ h => h⟩
def acQ (q : Nat) (r : Nat → Nat) : Nat → Nat
  | 0 => q
  | k + 1 => r k
theorem vr_cst {e : va_E} (l : List Nat) : vr_up (fun _ => e) l e = fun _ => e := by funext a; unfold vr_up; split <;> rfl
set_option maxHeartbeats 4000000 in
set_option maxRecDepth 100000 in
theorem kL_counted (l : Launch) (D : va_G) (cA : Nat → ClassId) (b0 n0 : Nat) (f0 : Nat → Int32) (x1 x2 : Int32) (q : Nat → Nat → Int32) (h : mL_counted n0 f0 (fun _ _ => 0) x1 x2 = some q) : MXr l yL_counted wsL_counted { frames := 0, cells := 13, slots := 48, locals := 0 } D cA EA [.ref b0, .int x1, .int x2] [(b0, .inl (cA 0, n0, .inl f0))] (fun u => wL_counted cA b0 u.1 n0 f0 q) (fun _ => True) (fun u => u.1 0) 13 48 := by
  refine MXr.of (cc := cL_counted) (maxL := 5) (by decide) rfl (Or.inr ⟨_, rfl⟩) (Nat.le_of_ble_eq_true rfl) ?_
  intro p e s m args below meth c A ls Q hx hb hml hin hts hown hK hE hP hD hA hS hl hret
  have hl : lv_has ls 5 [(0, .ref b0), (1, .int x1), (2, .int x2)] := hl
  refine lv_bipush (v := 12) hx hb dL_counted_0 (by decide) ?_
  refine lv_iconst (v := 3) hx hb dL_counted_2 (by decide) ?_
  refine va_mna (X := [(b0, .inl (cA 0, n0, .inl f0))]) (L := []) (f := fun _ => .inl (cA 0, 3, .inl (fun _ => 0))) (own := RL) (index := 98) (ty := .int) (cy := cA 0) (N' := 12) (K' := 3) (z := (3, .inl (fun _ => 0))) hx hb hown (hts (.classLink RL 98 "[[I") (by decide +kernel)) hE (hts (.arrayClass .int) (by decide +kernel)) (hK.2 0 _ rfl).2 hK hP hD hS hA (by decide) (by decide) rfl rfl (by decide) (by decide) (by decide) rfl rfl (Nat.le_of_ble_eq_true rfl) (Nat.le_of_ble_eq_true rfl) (fun c => by rw [vp_cell_i]; apply arrV_new) dL_counted_3 (fun q0 r cA' H hinj hL hK2 hP hD hS => ?_)
  have e5 : cA' = cA 5 := Option.some.inj ((hK2.2 6 (cA', .array .int) rfl).2.symm.trans (hK.2 5 (cA 5, .array .int) rfl).2)
  subst e5
  rw [vr_cst] at hP hD
  have hP := w_rowsA (q0 := 1) (g := fun k => some (acQ q0 r (1 + k))) hP rfl (fun j hj => by rw [if_pos hj, Nat.add_comm 1 j]; rfl)
  have hD : va_D A (wL_counted cA b0 (acQ q0 r) n0 f0 (fun _ _ => 0)) := va_D_fst (by rfl) hD
  refine lv_astore_n (lv' := [(3, .ref q0), (0, .ref b0), (1, .int x1), (2, .int x2)]) hx hb dL_counted_7 rfl hl (by decide) rfl (fun ls hl => ?_)
  exact kL_countedB l D cA b0 (acQ q0 r) n0 f0 (fun _ _ => 0) x1 x2 q h hx hb hml hts hown hK hP hD hA hS (lv_sub hl [1, 2, 3, 0] rfl) (fun hP hD hS hd => hret (acQ q0 r, fun _ => 0, 0) trivial hP hD hS hd)
abbrev wL_isS (cA : Nat → ClassId) (ad : Nat → Nat) (b1 b2 n1 n2 : Nat) (block ties lines pmn : Int32) (row : RowT) (tally : TalT) (f1 f2 : Nat → Int32) : va_W := [(ad 0, .inr (5, [.ref (ad 1), .ref (ad 3), .ref (ad 7), .ref (ad 10), .ref (ad 13), .ref (ad 51), .ref (ad 56), .ref (ad 61), .int block, .int ties, .int lines, .int pmn])),
  (ad 7, .inr (2, [.ref (ad 8), .ref (ad 9), .int row.2.2])),
  (ad 8, .inl (cA 0, 120, .inl row.1)),
  (ad 9, .inl (cA 0, 120, .inl row.2.1)),
  (ad 51, .inr (3, [.ref (ad 52), .ref (ad 53), .ref (ad 54), .ref (ad 55), .int tally.2.2.2.2.1, .int tally.2.2.2.2.2.1, .int tally.2.2.2.2.2.2.1, .int tally.2.2.2.2.2.2.2])),
  (ad 52, .inl (cA 0, 1000, .inl tally.1)),
  (ad 53, .inl (cA 0, 1000, .inl tally.2.1)),
  (ad 54, .inl (cA 0, 1000, .inl tally.2.2.1)),
  (ad 55, .inl (cA 0, 120, .inl tally.2.2.2.1)),
  (b1, .inl (cA 0, n1, .inl f1)),
  (b2, .inl (cA 0, n2, .inl f2))]
theorem w_fitI {cI : ClassId} {n : Nat} {f : Nat → Int32} (i : Nat) (v : Value) (h : (vp_cell cI (n, .inl f)).slots[i]? = some v) : fits .int v = true := by
  rw [vp_cell_i] at h
  have hi : i < n := by
    have := (Array.getElem?_eq_some_iff.mp h).1
    rw [arrV_size] at this
    exact this
  rw [arrV_read _ _ hi] at h
  cases h
  rfl
set_option maxHeartbeats 4000000 in
set_option maxRecDepth 100000 in
theorem kL_isSpan (l : Launch) (D : va_G) (cA : Nat → ClassId) (ad : Nat → Nat) (b1 b2 n1 n2 : Nat) (block ties lines pmn : Int32) (row : RowT) (tally : TalT) (f1 f2 : Nat → Int32) (x3 x4 x5 : Int32) (qc : Nat → Nat → Int32) (hc : mL_counted n1 f1 (fun _ _ => 0) x3 x4 = some qc) (q : Int32 × TalT) (h : mL_isSpan n1 n2 ties row tally f1 f2 qc x3 x4 x5 = some q) : MXi l yL_isSpan wsL_isSpan { frames := 4, cells := 27, slots := 104, locals := 94 } D cA EA .boolean [.ref (ad 0), .ref b1, .ref b2, .int x3, .int x4, .int x5] (wL_isS cA ad b1 b2 n1 n2 block ties lines pmn row tally f1 f2) (fun u => (wL_isS cA ad b1 b2 n1 n2 block ties lines pmn row q.2 f1 f2)) (fun _ => True) (fun _ => q.1) 27 104 := by
  refine MXi.of (cc := cL_isSpan) (maxL := 15) (by decide +kernel) rfl (Nat.le_of_ble_eq_true rfl) ?_
  intro p e s m args below meth c A ls Q hx hb hml hin hts hown hK hE hP hD hA hS hl hret
  have hl : lv_has ls 15 [(0, .ref (ad 0)), (1, .ref b1), (2, .ref b2), (3, .int x3), (4, .int x4), (5, .int x5)] := hl
  refine lv_aload_n hx hb dL_isSpan_0 rfl (lv_at hl 1 rfl) ?_
  refine lv_iload_n hx hb dL_isSpan_1 rfl (lv_at hl 3 rfl) ?_
  refine lv_iload hx hb dL_isSpan_2 (lv_at hl 4 rfl) ?_
  have hPc : va_P D vwCl ([(ad 0, .inr (5, [.ref (ad 1), .ref (ad 3), .ref (ad 7), .ref (ad 10), .ref (ad 13), .ref (ad 51), .ref (ad 56), .ref (ad 61), .int block, .int ties, .int lines, .int pmn])), (ad 7, .inr (2, [.ref (ad 8), .ref (ad 9), .int row.2.2])), (ad 8, .inl (cA 0, 120, .inl row.1)), (ad 9, .inl (cA 0, 120, .inl row.2.1)), (ad 51, .inr (3, [.ref (ad 52), .ref (ad 53), .ref (ad 54), .ref (ad 55), .int tally.2.2.2.2.1, .int tally.2.2.2.2.2.1, .int tally.2.2.2.2.2.2.1, .int tally.2.2.2.2.2.2.2])), (ad 52, .inl (cA 0, 1000, .inl tally.1)), (ad 53, .inl (cA 0, 1000, .inl tally.2.1)), (ad 54, .inl (cA 0, 1000, .inl tally.2.2.1)), (ad 55, .inl (cA 0, 120, .inl tally.2.2.2.1)), (b2, .inl (cA 0, n2, .inl f2))] ++ [(b1, .inl (cA 0, n1, .inl f1))]) _ := hP.sub [0, 1, 2, 3, 4, 5, 6, 7, 8, 10, 9] rfl
  have hDc : va_D A ([(ad 0, .inr (5, [.ref (ad 1), .ref (ad 3), .ref (ad 7), .ref (ad 10), .ref (ad 13), .ref (ad 51), .ref (ad 56), .ref (ad 61), .int block, .int ties, .int lines, .int pmn])), (ad 7, .inr (2, [.ref (ad 8), .ref (ad 9), .int row.2.2])), (ad 8, .inl (cA 0, 120, .inl row.1)), (ad 9, .inl (cA 0, 120, .inl row.2.1)), (ad 51, .inr (3, [.ref (ad 52), .ref (ad 53), .ref (ad 54), .ref (ad 55), .int tally.2.2.2.2.1, .int tally.2.2.2.2.2.1, .int tally.2.2.2.2.2.2.1, .int tally.2.2.2.2.2.2.2])), (ad 52, .inl (cA 0, 1000, .inl tally.1)), (ad 53, .inl (cA 0, 1000, .inl tally.2.1)), (ad 54, .inl (cA 0, 1000, .inl tally.2.2.1)), (ad 55, .inl (cA 0, 120, .inl tally.2.2.2.1)), (b2, .inl (cA 0, n2, .inl f2))] ++ [(b1, .inl (cA 0, n1, .inl f1))]) := hD.sub [0, 1, 2, 3, 4, 5, 6, 7, 8, 10, 9] (by decide +kernel) rfl
  refine xg_r (X := [(ad 0, .inr (5, [.ref (ad 1), .ref (ad 3), .ref (ad 7), .ref (ad 10), .ref (ad 13), .ref (ad 51), .ref (ad 56), .ref (ad 61), .int block, .int ties, .int lines, .int pmn])), (ad 7, .inr (2, [.ref (ad 8), .ref (ad 9), .int row.2.2])), (ad 8, .inl (cA 0, 120, .inl row.1)), (ad 9, .inl (cA 0, 120, .inl row.2.1)), (ad 51, .inr (3, [.ref (ad 52), .ref (ad 53), .ref (ad 54), .ref (ad 55), .int tally.2.2.2.2.1, .int tally.2.2.2.2.2.1, .int tally.2.2.2.2.2.2.1, .int tally.2.2.2.2.2.2.2])), (ad 52, .inl (cA 0, 1000, .inl tally.1)), (ad 53, .inl (cA 0, 1000, .inl tally.2.1)), (ad 54, .inl (cA 0, 1000, .inl tally.2.2.1)), (ad 55, .inl (cA 0, 120, .inl tally.2.2.2.1)), (b2, .inl (cA 0, n2, .inl f2))]) (W' := [(b1, .inl (cA 0, n1, .inl f1))]) (xr_S (As := [.ref b1, .int x3, .int x4]) (rest := []) EA_ok ((E_in EA_ok hE hDc hS hA)) ⟨hx, hb, hml, hown, hts⟩ hl.1 (kL_counted l D cA b1 n1 f1 x3 x4 qc hc) (va_cwS 3 hts gL_isSpan_L_counted rfl rfl rfl (by decide +kernel) ⟨Nat.le_of_ble_eq_true rfl, Nat.le_of_ble_eq_true rfl⟩) rfl hK hPc hDc (Nat.le_of_ble_eq_true rfl) dL_isSpan_4 ⟨Nat.le_of_ble_eq_true rfl, Nat.le_of_ble_eq_true rfl⟩) hPc hDc hS hA (fun u1 H locs hu1 hP hD hS => ?_)
  have hP : va_P D vwCl [(ad 0, .inr (5, [.ref (ad 1), .ref (ad 3), .ref (ad 7), .ref (ad 10), .ref (ad 13), .ref (ad 51), .ref (ad 56), .ref (ad 61), .int block, .int ties, .int lines, .int pmn])), (ad 7, .inr (2, [.ref (ad 8), .ref (ad 9), .int row.2.2])), (ad 8, .inl (cA 0, 120, .inl row.1)), (ad 9, .inl (cA 0, 120, .inl row.2.1)), (ad 51, .inr (3, [.ref (ad 52), .ref (ad 53), .ref (ad 54), .ref (ad 55), .int tally.2.2.2.2.1, .int tally.2.2.2.2.2.1, .int tally.2.2.2.2.2.2.1, .int tally.2.2.2.2.2.2.2])), (ad 52, .inl (cA 0, 1000, .inl tally.1)), (ad 53, .inl (cA 0, 1000, .inl tally.2.1)), (ad 54, .inl (cA 0, 1000, .inl tally.2.2.1)), (ad 55, .inl (cA 0, 120, .inl tally.2.2.2.1)), (b2, .inl (cA 0, n2, .inl f2)), (b1, .inl (cA 0, n1, .inl f1)), (u1.1 0, .inl (cA 5, 12, .inr (.inr (.inr (.inr (fun k => some (u1.1 (1 + k)))))))), (u1.1 1, .inl (cA 0, 3, .inl (qc 0))), (u1.1 2, .inl (cA 0, 3, .inl (qc 1))), (u1.1 3, .inl (cA 0, 3, .inl (qc 2))), (u1.1 4, .inl (cA 0, 3, .inl (qc 3))), (u1.1 5, .inl (cA 0, 3, .inl (qc 4))), (u1.1 6, .inl (cA 0, 3, .inl (qc 5))), (u1.1 7, .inl (cA 0, 3, .inl (qc 6))), (u1.1 8, .inl (cA 0, 3, .inl (qc 7))), (u1.1 9, .inl (cA 0, 3, .inl (qc 8))), (u1.1 10, .inl (cA 0, 3, .inl (qc 9))), (u1.1 11, .inl (cA 0, 3, .inl (qc 10))), (u1.1 12, .inl (cA 0, 3, .inl (qc 11)))] H := hP
  have hD : va_D A [(ad 0, .inr (5, [.ref (ad 1), .ref (ad 3), .ref (ad 7), .ref (ad 10), .ref (ad 13), .ref (ad 51), .ref (ad 56), .ref (ad 61), .int block, .int ties, .int lines, .int pmn])), (ad 7, .inr (2, [.ref (ad 8), .ref (ad 9), .int row.2.2])), (ad 8, .inl (cA 0, 120, .inl row.1)), (ad 9, .inl (cA 0, 120, .inl row.2.1)), (ad 51, .inr (3, [.ref (ad 52), .ref (ad 53), .ref (ad 54), .ref (ad 55), .int tally.2.2.2.2.1, .int tally.2.2.2.2.2.1, .int tally.2.2.2.2.2.2.1, .int tally.2.2.2.2.2.2.2])), (ad 52, .inl (cA 0, 1000, .inl tally.1)), (ad 53, .inl (cA 0, 1000, .inl tally.2.1)), (ad 54, .inl (cA 0, 1000, .inl tally.2.2.1)), (ad 55, .inl (cA 0, 120, .inl tally.2.2.2.1)), (b2, .inl (cA 0, n2, .inl f2)), (b1, .inl (cA 0, n1, .inl f1)), (u1.1 0, .inl (cA 5, 12, .inr (.inr (.inr (.inr (fun k => some (u1.1 (1 + k)))))))), (u1.1 1, .inl (cA 0, 3, .inl (qc 0))), (u1.1 2, .inl (cA 0, 3, .inl (qc 1))), (u1.1 3, .inl (cA 0, 3, .inl (qc 2))), (u1.1 4, .inl (cA 0, 3, .inl (qc 3))), (u1.1 5, .inl (cA 0, 3, .inl (qc 4))), (u1.1 6, .inl (cA 0, 3, .inl (qc 5))), (u1.1 7, .inl (cA 0, 3, .inl (qc 6))), (u1.1 8, .inl (cA 0, 3, .inl (qc 7))), (u1.1 9, .inl (cA 0, 3, .inl (qc 8))), (u1.1 10, .inl (cA 0, 3, .inl (qc 9))), (u1.1 11, .inl (cA 0, 3, .inl (qc 10))), (u1.1 12, .inl (cA 0, 3, .inl (qc 11)))] := hD
  refine lv_astore (lv' := [(6, .ref (u1.1 0)), (0, .ref (ad 0)), (1, .ref b1), (2, .ref b2), (3, .int x3), (4, .int x4), (5, .int x5)]) hx hb dL_isSpan_7 hl (by decide) rfl (fun ls hl => ?_)
  have hP : va_P D vwCl (wL_isSpan cA ad b1 b2 u1.1 n1 n2 block ties lines pmn row tally f1 f2 qc) H := hP.sub [0, 1, 2, 3, 4, 5, 6, 7, 8, 10, 9, 11, 12, 13, 14, 15, 16, 17, 18, 19, 20, 21, 22, 23] rfl
  have hD : va_D A (wL_isSpan cA ad b1 b2 u1.1 n1 n2 block ties lines pmn row tally f1 f2 qc) := hD.sub [0, 1, 2, 3, 4, 5, 6, 7, 8, 10, 9, 11, 12, 13, 14, 15, 16, 17, 18, 19, 20, 21, 22, 23] (by decide +kernel) rfl
  refine kL_isSpanB l D cA ad b1 b2 u1.1 n1 n2 block ties lines pmn row tally f1 f2 qc x3 x4 x5 q h hx hb hml hts hown hK hP hD hA hS (lv_sub hl [1, 2, 3, 4, 5, 6, 0] rfl) (fun {H locs ls pc} hP hS hn hd => ?_)
  have hD2 : va_D A (wL_isSpan cA ad b1 b2 u1.1 n1 n2 block ties lines pmn row q.2 f1 f2 qc) := va_D_fst (by rfl) hD
  exact hret (fun _ => 0, fun _ => 0, 0) trivial (hP.sub [0, 1, 2, 3, 4, 5, 6, 7, 8, 9, 10] rfl) (hD2.sub [0, 1, 2, 3, 4, 5, 6, 7, 8, 9, 10] (by decide +kernel) rfl) hS hn hd
set_option maxHeartbeats 4000000 in
set_option maxRecDepth 100000 in
theorem kL_edited (l : Launch) (D : va_G) (cA : Nat → ClassId) (b0 b1 n0 : Nat) (f0 f1 : Nat → Int32) (x2 x3 x4 x5 : Int32) (q : Nat × (Nat → Int32) × (Nat → Int32)) (h : mL_edited n0 f0 f1 f0 f1 x2 x3 x4 x5 (nI n0) = some q) (hn0 : n0 ≤ 60) : MXr l yL_edited wsL_edited { frames := 1, cells := 5, slots := 600, locals := 24 } D cA EI [.ref b0, .ref b1, .int x2, .int x3, .int x4, .int x5] [(b0, .inl (cA 0, n0, .inl f0)), (b1, .inl (cA 0, n0, .inl f1))] (fun u => wL_edR cA b0 b1 (u.1 0) (u.1 1) (u.1 2) n0 f0 f1 q) (fun _ => True) (fun u => u.1 0) 5 600 := by
  refine MXr.of (cc := cL_edited) (maxL := 14) (by decide) rfl (Or.inr ⟨_, rfl⟩) (Nat.le_of_ble_eq_true rfl) ?_
  intro p e s m args below meth c A ls Q hx hb hml hin hts hown hK hE hP hD hA hS hl hret
  have hl : lv_has ls 14 [(0, .ref b0), (1, .ref b1), (2, .int x2), (3, .int x3), (4, .int x4), (5, .int x5)] := hl
  refine lv_aload_n hx hb dL_edited_0 rfl (lv_at hl 0 rfl) ?_
  refine va_alen (v := nI n0) hx hb hK hP 0 0 rfl rfl rfl dL_edited_1 ?_
  refine lv_istore (lv' := [(6, .int (nI n0)), (0, .ref b0), (1, .ref b1), (2, .int x2), (3, .int x3), (4, .int x4), (5, .int x5)]) hx hb dL_edited_2 hl (by decide) rfl (fun ls hl => ?_)
  refine lv_aload_n hx hb dL_edited_4 rfl (lv_at hl 1 rfl) ?_
  refine va_clone hx hb (by rw [hml, hl.1]) hown (hts (.methodLink RL 137 ⟨"[I", "clone", "()Ljava/lang/Object;"⟩) (by decide +kernel)) (hts (.sameMethod "[I" "java/lang/Object" "clone" "()Ljava/lang/Object;") (by decide +kernel)) (hts (.native ⟨"java/lang/Object", "clone", "()Ljava/lang/Object;"⟩) (by decide +kernel)) (hts (.instanceMethod ⟨"java/lang/Object", "clone", "()Ljava/lang/Object;"⟩) (by decide +kernel)) (hts (.selects "[I" ⟨"[I", "clone", "()Ljava/lang/Object;"⟩ ⟨"java/lang/Object", "clone", "()Ljava/lang/Object;"⟩) (by decide +kernel)) hE.2 hK hP hD hS hA 0 0 rfl rfl (hK.2 0 _ rfl).2 (fun i v h => w_fitI i v h) (Nat.le_of_ble_eq_true rfl) (Nat.le_of_ble_eq_true rfl) (Nat.le_of_ble_eq_true rfl) (show 0 + n0 ≤ 600 by omega) dL_edited_5 (fun q1 H _ hP hD hS => ?_)
  have hP : va_P D vwCl [(b0, .inl (cA 0, n0, .inl f0)), (b1, .inl (cA 0, n0, .inl f1)), (q1, .inl (cA 0, n0, .inl f0))] H := hP
  have hD : va_D A [(b0, .inl (cA 0, n0, .inl f0)), (b1, .inl (cA 0, n0, .inl f1)), (q1, .inl (cA 0, n0, .inl f0))] := hD
  refine va_castA hx hb hown (hts (.classLink RL 138 "[I") (by decide +kernel)) hP 2 rfl (hK.2 0 _ rfl).2 dL_edited_8 ?_
  refine lv_astore (lv' := [(7, .ref q1), (6, .int (nI n0)), (0, .ref b0), (1, .ref b1), (2, .int x2), (3, .int x3), (4, .int x4), (5, .int x5)]) hx hb dL_edited_11 hl (by decide) rfl (fun ls hl => ?_)
  refine lv_aload_n hx hb dL_edited_13 rfl (lv_at hl 3 rfl) ?_
  refine va_clone hx hb (by rw [hml, hl.1]) hown (hts (.methodLink RL 137 ⟨"[I", "clone", "()Ljava/lang/Object;"⟩) (by decide +kernel)) (hts (.sameMethod "[I" "java/lang/Object" "clone" "()Ljava/lang/Object;") (by decide +kernel)) (hts (.native ⟨"java/lang/Object", "clone", "()Ljava/lang/Object;"⟩) (by decide +kernel)) (hts (.instanceMethod ⟨"java/lang/Object", "clone", "()Ljava/lang/Object;"⟩) (by decide +kernel)) (hts (.selects "[I" ⟨"[I", "clone", "()Ljava/lang/Object;"⟩ ⟨"java/lang/Object", "clone", "()Ljava/lang/Object;"⟩) (by decide +kernel)) hE.2 hK hP hD hS hA 1 0 rfl rfl (hK.2 0 _ rfl).2 (fun i v h => w_fitI i v h) (Nat.le_of_ble_eq_true rfl) (Nat.le_of_ble_eq_true rfl) (Nat.le_of_ble_eq_true rfl) (show (0 + n0) + n0 ≤ 600 by omega) dL_edited_14 (fun q2 H _ hP hD hS => ?_)
  have hP : va_P D vwCl [(b0, .inl (cA 0, n0, .inl f0)), (b1, .inl (cA 0, n0, .inl f1)), (q1, .inl (cA 0, n0, .inl f0)), (q2, .inl (cA 0, n0, .inl f1))] H := hP
  have hD : va_D A [(b0, .inl (cA 0, n0, .inl f0)), (b1, .inl (cA 0, n0, .inl f1)), (q1, .inl (cA 0, n0, .inl f0)), (q2, .inl (cA 0, n0, .inl f1))] := hD
  refine va_castA hx hb hown (hts (.classLink RL 138 "[I") (by decide +kernel)) hP 3 rfl (hK.2 0 _ rfl).2 dL_edited_17 ?_
  refine lv_astore (lv' := [(8, .ref q2), (7, .ref q1), (6, .int (nI n0)), (0, .ref b0), (1, .ref b1), (2, .int x2), (3, .int x3), (4, .int x4), (5, .int x5)]) hx hb dL_edited_20 hl (by decide) rfl (fun ls hl => ?_)
  refine W.widen (k := 2) (n := n0 + n0) (by omega) (by omega) ?_
  refine kL_editedB l D cA b0 b1 q1 q2 n0 f0 f1 f0 f1 x2 x3 x4 x5 (nI n0) q h hn0 hx hb hml hts hown hK hE.1 hP hD hA hS (lv_sub hl [3, 4, 5, 6, 7, 8, 2, 1, 0] rfl) (fun {H locs ls pc} q0 q1 q2 hP hD hS hd => ?_)
  exact hret (adL [q0, q1, q2], fun _ => 0, 0) trivial hP hD hS hd
