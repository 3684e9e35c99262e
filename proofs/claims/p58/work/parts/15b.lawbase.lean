/-! the law's own methods: the script (never written), rows of rows, new rows; contracts and calls -/
theorem va_P_pre {D : va_G} {cl : List vw_C} {w1 w2 : va_W} {H : Heap} (h : va_P D cl (w1 ++ w2) H) : va_P D cl w1 H := fun k q hk => h k q (by rw [List.getElem?_append_left ((List.getElem?_eq_some_iff.mp hk).1)]; exact hk)
theorem va_D_pre {A : Nat → Prop} {w1 w2 : va_W} (h : va_D A (w1 ++ w2)) : va_D A w1 := by
  have hX : ∀ (k : Nat) (q : Nat × va_E), w1[k]? = some q → (w1 ++ w2)[k]? = some q := fun k q hk => by rw [List.getElem?_append_left ((List.getElem?_eq_some_iff.mp hk).1)]; exact hk
  exact ⟨fun i j p q hi hj => h.1 i j p q (hX i p hi) (hX j q hj), fun k q hk => h.2 k q (hX k q hk)⟩
theorem w_putF_nil (qs : va_W) : ∀ (W : va_W) (k : Nat), w_putF [] qs k W = W
  | [], k => rfl
  | q :: W, k => by show w_sel [] qs k q :: w_putF [] qs (k + 1) W = q :: W; rw [w_putF_nil qs W (k + 1)]; rfl
theorem w_put_nil (W qs : va_W) : w_put W [] qs = W := w_putF_nil qs W 0
theorem va_P_nil {D : va_G} {cl : List vw_C} {H : Heap} : va_P D cl [] H := fun k q h => by simp at h
theorem va_D_nil {A : Nat → Prop} : va_D A [] := ⟨fun i j p q hi => by simp at hi, fun k q h => by simp at h⟩
/-- a row of references told by another function that agrees on its places -/
theorem w_rowsA {D : va_G} {cA : Nat → ClassId} {W : va_W} {H : Heap} {q0 a n : Nat} {f g : Nat → Option Nat} (hP : va_P D vwCl W H) (h : W[q0]? = some (a, .inl (cA 5, n, .inr (.inr (.inr (.inr f)))))) (hfg : ∀ j, j < n → f j = g j) : va_P D vwCl (W.set q0 (a, .inl (cA 5, n, .inr (.inr (.inr (.inr g)))))) H := by
  intro k q hk
  by_cases hq : k = q0
  · subst hq
    rw [List.getElem?_set_self (List.getElem?_eq_some_iff.mp h).1] at hk
    cases hk
    have h1 := hP k _ h
    have e : vp_cell (cA 5) (n, .inr (.inr (.inr (.inr f)))) = vp_cell (cA 5) (n, .inr (.inr (.inr (.inr g)))) := by
      rw [vp_cell_q, vp_cell_q]
      exact arrV_cg (fun j hj => by rw [hfg j hj])
    show H[a]? = some _
    rw [← e]; exact h1
  · rw [List.getElem?_set_ne (Ne.symm hq)] at hk
    exact hP k q hk
theorem vm_asg (vm : Vm) (c : ClassId) : vm.assignable c c = true := by
  show vm.assignableAux (255 + 1) c c = true
  rw [Vm.assignableAux]
  simp
section
variable {p : Program} {l : Launch} {e : Env} {R : Room} {s : State} {m : MethodId} {args : Array Value} {below : List Frame} {meth : Method} {c : Code} {H : Heap} {locs : List Loc} {cells slots : Nat} {Q : State → Prop}
variable {cc : ByteArray} {pc : Nat} {ls : Array Slot} {rest : List Value} {D : va_G} {cA : Nat → ClassId} {A : Nat → Prop} {a : Nat} {ws : va_W} {H0 : Heap}
/-- a row out of a row of rows -/
theorem xa_aaldA (hx : p.tables.exec = Jvm.exec) (hb : c.code = cc) (hK : va_K D vwCl (TY cA) s) (hP : va_P D vwCl ws H) (q0 : Nat) {n : Nat} {g : Nat → Nat} (ha : ws[q0]? = some (a, .inl (cA 5, n, .inr (.inr (.inr (.inr (fun k => some (g k)))))))) {i : Int32} {v : Nat} (hin : vp_in i n) (hv : i.toNatClampNeg = v) (hdg : decode cc pc = .ok (.aaload, 1))
    (kk : W p l e R s m args below meth c H locs cells slots Q (F0 m (pc + 1) ls (.ref (g v) :: rest))) : W p l e R s m args below meth c H locs cells slots Q (F0 m pc ls (.int i :: .ref a :: rest)) := by
  subst hv
  have hlt : i.toNatClampNeg < n := Nat.not_le.mp fun q => hin (Or.inr q)
  exact W.aald (v := va_rf (some (g i.toNatClampNeg))) (ty := .array .int) hx hb (hP q0 _ ha) ((hK.2 5 _ rfl).1 n (fun j => va_rf (some (g j)))) rfl (fun q => by cases q) (by show ¬ (i < 0 ∨ (arrV _ _ _).slots.size ≤ _); rw [arrV_size]; exact hin) (by show (arrV _ _ _).slots[_]? = _; rw [arrV_read _ _ hlt]) rfl rfl hdg kk
/-- new int[2][] -/
theorem xa_newA (hx : p.tables.exec = Jvm.exec) (hb : c.code = cc) {own : String} {index : Nat} (hown : s.vm.findClass own = some m.cls) (hclink : (Cond.classLink own index "[I").before args s = true) (hO : va_AOA .int s) (hK : va_K D vwCl (TY cA) s) (hP : va_P D vwCl ws H) (hD : va_D A ws) (hS : va_S A H0 H locs) (hA : ∀ q, H0.size ≤ q → A q)
    (hcells : cells + 1 ≤ R.cells) (hslots : slots + 2 ≤ R.slots) (hdg : decode cc pc = .ok (.anewarray index, 3))
    (kk : ∀ (q : Nat) (H1 : Heap), va_P D vwCl (ws ++ [(q, .inl (cA 5, 2, .inr (.inr (.inr (.inr (fun _ => none))))))]) H1 → va_D A (ws ++ [(q, .inl (cA 5, 2, .inr (.inr (.inr (.inr (fun _ => none))))))]) → va_S A H0 H1 locs →
      W p l e R s m args below meth c H1 locs (cells + 1) (slots + 2) Q (F0 m (pc + 3) ls (.ref q :: rest))) : W p l e R s m args below meth c H locs cells slots Q (F0 m pc ls (.int 2 :: rest)) := by
  refine W.anewA (t := .int) (n := 2) hx hb hown hclink (va_AOA.use hO) rfl hdg rfl (by decide) (by decide) hcells hslots fun cA' kA comp f1 f2 f3 f4 => ?_
  have e2 : s.vm.findClass ("[" ++ (FieldType.array .int).toString) = some (cA 5) := (hK.2 5 (cA 5, .array .int) rfl).2
  have e3 : cA' = cA 5 := Option.some.inj (f1.symm.trans e2)
  subst e3
  show W p l e R s m args below meth c (H.push ({ cls := cA 5, slots := Array.replicate 2 .null, vm := .none } : Cell)) locs (cells + 1) (slots + 2) Q _
  generalize hH1 : H.push ({ cls := cA 5, slots := Array.replicate 2 .null, vm := .none } : Cell) = H1
  have z1 : H1.size = H.size + 1 := by rw [← hH1, Array.size_push]
  have e1 : H1[H.size]? = some (arrV (cA 5) 2 (fun _ => .null)) := by rw [← hH1, Array.getElem?_push_size, ← arrV_new]
  have o1 : ∀ q : Nat, q < H.size → H1[q]? = H[q]? := fun q hq => by rw [← hH1, Array.getElem?_push, if_neg (Nat.ne_of_lt hq)]
  have hk : ∀ (k : Nat) (x : Nat × va_E), ws[k]? = some x → H1[x.1]? = H[x.1]? := fun k x hx => o1 x.1 ((hP k x hx).lt)
  refine kk H.size H1 ((hP.kept hk).app (fun k x hx => ?_)) (hD.push hP rfl (hA _ hS.1)) ⟨Nat.le_trans hS.1 (by omega), fun x h1 h2 => (o1 x (Nat.lt_of_lt_of_le h1 hS.1)).trans (hS.2.1 x h1 h2), hS.2.2⟩
  have hz : k < 1 := (List.getElem?_eq_some_iff.mp hx).1
  rw [show k = 0 by omega] at hx
  cases hx
  show H1[H.size]? = some (vp_cell _ _)
  rw [vp_cell_q]
  exact e1
/-- a row put into a row of rows -/
theorem xa_astA (hx : p.tables.exec = Jvm.exec) (hb : c.code = cc) (hO : va_AOA .int s) (hK : va_K D vwCl (TY cA) s) (hP : va_P D vwCl ws H) (hD : va_D A ws) (hS : va_S A H0 H locs) (q0 qk : Nat) {n v n2 : Nat} {f : Nat → Option Nat} {f2 : Nat → Int32} (ha : ws[q0]? = some (a, .inl (cA 5, n, .inr (.inr (.inr (.inr f)))))) (hv : ws[qk]? = some (v, .inl (cA 0, n2, .inl f2))) {i : Int32} (hin : vp_in i n) (hdg : decode cc pc = .ok (.aastore, 1))
    (kk : ∀ (H1 : Heap) (locs1 : List Loc), va_P D vwCl (ws.set q0 (a, .inl (cA 5, n, .inr (.inr (.inr (.inr (va_up f i.toNatClampNeg (some v)))))))) H1 → va_D A (ws.set q0 (a, .inl (cA 5, n, .inr (.inr (.inr (.inr (va_up f i.toNatClampNeg (some v)))))))) → va_S A H0 H1 locs1 → W p l e R s m args below meth c H1 locs1 cells slots Q (F0 m (pc + 1) ls rest)) : W p l e R s m args below meth c H locs cells slots Q (F0 m pc ls (.ref v :: .int i :: .ref a :: rest)) := by
  have hlt : i.toNatClampNeg < n := Nat.not_le.mp fun q => hin (Or.inr q)
  have h0 : ¬ i < 0 := fun q => hin (Or.inl q)
  obtain ⟨comp, c5, k5, g1, -, g3, g4, g5⟩ := arrayOverA_spec (va_AOA.use (A := args) hO)
  have d5 : s.vm.findClass ("[" ++ (FieldType.array .int).toString) = some (cA 5) := (hK.2 5 (cA 5, .array .int) rfl).2
  have d0 : s.vm.findClass (FieldType.array .int).toString = some (cA 0) := (hK.2 0 (cA 0, .int) rfl).2
  have e5 : c5 = cA 5 := Option.some.inj (g5.symm.trans d5)
  have e0 : comp = cA 0 := Option.some.inj (g1.symm.trans d0)
  subst e5
  subst e0
  obtain ⟨kC, hkC, -⟩ := Vm.findClass_spec d0
  refine W.aast hx hb (hP q0 _ ha) (fun q h => by cases h) (fun h => by cases h) g3 g4 rfl hkC ⟨h0, by show _ < (arrV _ _ _).slots.size; rw [arrV_size]; exact hlt⟩ (hP qk _ hv) (fun q h => by cases h) hkC (vm_asg _ _) rfl rfl hdg fun H1 e z oq => ?_
  refine kk H1 _ (hP.set hD ha ?_ oq) (hD.set ha) (hS.put z oq (hD.2 q0 _ ha))
  show H1[a]? = some (vp_cell _ _)
  rw [e]
  rw [vp_cell_q, vp_cell_q, arrV_store]
  congr 2
  funext q
  by_cases hq : q = i.toNatClampNeg
  · subst hq
    simp [updV, va_up, va_rf]
  · simp [updV, va_up, hq]
end
/-! a method that reads the script -/
abbrev mWT (D : va_G) (cA : Nat → ClassId) (bS : Nat) (xs : Nat → Int32) (nS : Nat) (W : va_W) (sz : Nat) : State → Prop := fun U => mW D cA W sz U ∧ va_T .int bS nS (fun j => .int (xs j)) (va_A W sz) U U.heap
def MIT (l : Launch) (y : MethodName) (ws : List Cond) (rm : Room) (D : va_G) (cA : Nat → ClassId) (bS : Nat) (xs : Nat → Int32) (nS : Nat) (ty : FieldType) (av : List Value) (W W' : va_W) (r : Int32) : Prop :=
  ∀ sz : Nat, Met l y ws rm (va_Pc av (mWT D cA bS xs nS W sz)) (va_Qi (fun (x : Int32) (_ : Unit) => x = r ∧ narrow ty (.int x) = .int x) (fun _ t => va_P D vwCl W' t.heap) (va_A W sz)) 0 0 (va_A W sz)
theorem MIT.of {l : Launch} {y : MethodName} {ws ws' : List Cond} {rm : Room} {D : va_G} {cA : Nat → ClassId} {bS : Nat} {xs : Nat → Int32} {nS : Nat} {ty : FieldType} {av : List Value} {W0 W' : va_W} {r : Int32} {cc : ByteArray} {maxL : Nat} (hy : plainFor y = true) (hw : ws = Cond.code y cc maxL (some ty) :: ws') (hrc : rm.cells = 0) (hrs : rm.slots = 0) (hav : (lg_sl av).length ≤ maxL)
    (body : ∀ {p : Program} {e : Env} {s : State} {m : MethodId} {args : Array Value} {below : List Frame} {meth : Method} {c : Code} {A : Nat → Prop} {ls : Array Slot} {Q : State → Prop}, p.tables.exec = Jvm.exec → c.code = cc → c.maxLocals = maxL → (∀ w ∈ ws, w.before args s = true) → s.vm.findClass y.cls = some m.cls → va_K D vwCl (TY cA) s → va_P D vwCl W0 s.heap → va_D A W0 → (∀ q : Nat, s.heap.size ≤ q → A q) → va_S A s.heap s.heap [] → va_T .int bS nS (fun j => .int (xs j)) A s s.heap → lv_has ls maxL (lv_args 0 av) →
      (∀ {H : Heap} {locs : List Loc} {ls : Array Slot} {pc : Nat}, va_P D vwCl W' H → va_S A s.heap H locs → narrow ty (.int r) = .int r → decode cc pc = .ok (.ireturn, 1) → W p l e (headSpec ws rm).room s m args below meth c H locs 0 0 Q (F0 m pc ls [.int r])) →
      W p l e (headSpec ws rm).room s m args below meth c s.heap [] 0 0 Q (F0 m 0 ls [])) : MIT l y ws rm D cA bS xs nS ty av W0 W' r := by
  intro sz
  refine Met.ofWF (cc := cc) (maxL := maxL) (ret := some ty) hy hw ?_
  intro p e s m args below meth c s₁ B hml hv
  obtain ⟨rfl, ⟨hsz, hP, hK, hD0⟩, hT⟩ := hv
  have hlocks := B.notSynchronized
  subst hsz
  rw [lg_entry_eq]
  refine body B.exec B.bytes hml (atoms_spec (ws := ws) B.pre) (findClass_of_methodNamed B.named) hK hP hD0.self (fun q h => Or.inr h) va_S.rf hT (lv_entry av hav) ?_
  intro H locs ls pc hP1 hS hn hd
  exact W.zret B.exec B.bytes B.returns hn (fun t ht hW => ⟨⟨r, (), rfl, ⟨rfl, hn⟩, by show va_P D vwCl W' t.heap; rw [ht]; exact hP1⟩, hS.F ht⟩) hS.2.2 hd
theorem w_blindT {D : va_G} {cA : Nat → ClassId} {bS : Nat} {xs : Nat → Int32} {nS : Nat} {W : va_W} {av : List Value} {sz : Nat} : FrameBlind (va_Pc av (mWT D cA bS xs nS W sz)) := fun a U g mk q => by
  obtain ⟨q0, ⟨q1, qP, qK, qD⟩, qT⟩ := q
  exact ⟨q0, ⟨q1, qP, va_K.moved (u := U) (U := U.calling g mk a) (Vm.Alike.refl U.vm) qK, qD⟩, va_T.moved (u := U) (U := U.calling g mk a) (Vm.Alike.refl U.vm) qT⟩
section
variable {p : Program} {l : Launch} {e : Env} {R : Room} {s : State} {m : MethodId} {args : Array Value} {below : List Frame} {meth : Method} {c : Code} {H : Heap} {locs : List Loc} {cells slots : Nat} {Q : State → Prop}
variable {cc : ByteArray} {pc : Nat} {ls : Array Slot} {rest : List Value} {D : va_G} {cA : Nat → ClassId} {A : Nat → Prop} {a bS nS : Nat} {xs : Nat → Int32}
variable {y : MethodName} {bytes : ByteArray} {maxL nL n index : Nat} {ret : Option FieldType} {wd : List Cond} {rm : Room} {Ts : List Cond} {own : String} {As : List Value} {Wd : va_W} {r : Int32} {ty : FieldType}
/-- a static call of a method that reads the script and nothing else -/
theorem xs_iT (hT : va_T .int bS nS (fun j => .int (xs j)) A s s.heap) (S : CallFix p m c cc nL s args Ts own) (hl : ls.size = nL) (hM : MIT l y wd rm D cA bS xs nS ty As [] [] r) (cw : CallB R s args own index y bytes maxL ret wd rm 0 0 n ∧ (Cond.static y).before args s = true) (hn : As.length = n)
    (hK : va_K D vwCl (TY cA) s) (hP : va_P D vwCl Wd H) (hD : va_D A Wd) (hS : va_S A s.heap H locs) (hA : ∀ q : Nat, s.heap.size ≤ q → A q)
    (hroom : (rest.map fun v => v.category).sum ≤ 8) (hdg : decode cc pc = .ok (.invokestatic index, 3)) (hf : cells + 0 ≤ R.cells ∧ slots + 0 ≤ R.slots)
    (kk : ∀ (H1 : Heap) (locs1 : List Loc), va_P D vwCl Wd H1 → va_D A Wd → va_S A s.heap H1 locs1 → narrow ty (.int r) = .int r → W p l e R s m args below meth c H1 locs1 cells slots Q (F0 m (pc + 3) ls (.int r :: rest))) :
    W p l e R s m args below meth c H locs cells slots Q (F0 m pc ls (As.reverse ++ rest)) := by
  have hC : ([] : List Nat).map (fun i => Wd[i]?) = ([] : va_W).map some := rfl
  have hFc := va_free (wc := []) hD hS hA [] hC
  refine va_calli (va_runS (As := As) (rest := rest) S (hM H.size) cw ⟨w_blindT, fun U hU hW => ⟨rfl, ⟨by rw [hU], va_P_nil, va_K.moved hW.alike hK, va_D_nil⟩, by rw [hU]; exact ((hT.kept hS.2.1).narrow hFc).moved hW.alike⟩⟩ rfl hn hl rfl (lv_room hroom) hdg hf) hS (fun q _ h => hFc q h) hFc (fun r2 u t H1 locs1 ht hvm hw hB hz1 hk1 hS1 => ?_)
  obtain ⟨rfl, hnr⟩ := hw
  rw [ht] at hB
  obtain ⟨hP2, hD2⟩ := w_back hP hD hC rfl hk1 hB
  rw [w_put_nil] at hP2 hD2
  exact kk H1 locs1 hP2 hD2 hS1 hnr
end
/-- what edited gives: its two rows stay, two rows behind one another -/
abbrev wL_edR (cA : Nat → ClassId) (b0 b1 q0 q1 q2 : Nat) (n0 : Nat) (f0 f1 : Nat → Int32) (q : Nat × (Nat → Int32) × (Nat → Int32)) : va_W := [(b0, .inl (cA 0, n0, .inl f0)), (b1, .inl (cA 0, n0, .inl f1)), (q0, .inl (cA 5, 2, .inr (.inr (.inr (.inr (fun k => some (adL [q0, q1, q2] (1 + k)))))))), (q1, .inl (cA 0, q.1, .inl q.2.1)), (q2, .inl (cA 0, q.1, .inl q.2.2))]
