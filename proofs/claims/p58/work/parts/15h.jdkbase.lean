/-! contracts of methods that may make cells: what came of the callee's cells, with new ones (Wf u); what stands outside of them and is only read (E) -/
abbrev UX : Type := (Nat → Nat) × (Nat → Int32) × Nat
def EOK (E : (Nat → Prop) → State → Heap → Prop) : Prop :=
  (∀ (A : Nat → Prop) (s U : State) (H : Heap), s.WarmedH U.vm → E A s H → E A U H) ∧ (∀ (A : Nat → Prop) (u U : State) (H : Heap), U.vm = u.vm → E A u H → E A U H) ∧
  (∀ (A : Nat → Prop) (U : State) (H H1 : Heap), (∀ a : Nat, a < H.size → ¬ A a → H1[a]? = H[a]?) → E A U H → E A U H1) ∧ (∀ (A B : Nat → Prop) (U : State) (H : Heap), (∀ q, B q → A q) → E A U H → E B U H)
abbrev mWX (D : va_G) (cA : Nat → ClassId) (E : (Nat → Prop) → State → Heap → Prop) (W : va_W) (sz : Nat) : State → Prop := fun U => mW D cA W sz U ∧ E (va_A W sz) U U.heap
def MXv (l : Launch) (y : MethodName) (ws : List Cond) (rm : Room) (D : va_G) (cA : Nat → ClassId) (E : (Nat → Prop) → State → Heap → Prop) (av : List Value) (W : va_W) (Wf : UX → va_W) (po : UX → Prop) (mc ms : Nat) : Prop :=
  ∀ sz : Nat, Met l y ws rm (va_Pc av (mWX D cA E W sz)) (va_Qv po (fun u t => va_P D vwCl (Wf u) t.heap ∧ va_D (va_A W sz) (Wf u)) (va_A W sz)) mc ms (va_A W sz)
def MXr (l : Launch) (y : MethodName) (ws : List Cond) (rm : Room) (D : va_G) (cA : Nat → ClassId) (E : (Nat → Prop) → State → Heap → Prop) (av : List Value) (W : va_W) (Wf : UX → va_W) (po : UX → Prop) (rv : UX → Nat) (mc ms : Nat) : Prop :=
  ∀ sz : Nat, Met l y ws rm (va_Pc av (mWX D cA E W sz)) (va_Qr po (fun u a t => a = rv u ∧ va_P D vwCl (Wf u) t.heap ∧ va_D (va_A W sz) (Wf u)) (va_A W sz)) mc ms (va_A W sz)
def MXi (l : Launch) (y : MethodName) (ws : List Cond) (rm : Room) (D : va_G) (cA : Nat → ClassId) (E : (Nat → Prop) → State → Heap → Prop) (ty : FieldType) (av : List Value) (W : va_W) (Wf : UX → va_W) (po : UX → Prop) (r : UX → Int32) (mc ms : Nat) : Prop :=
  ∀ sz : Nat, Met l y ws rm (va_Pc av (mWX D cA E W sz)) (va_Qi (fun (x : Int32) (u : UX) => x = r u ∧ narrow ty (.int x) = .int x ∧ po u) (fun u t => va_P D vwCl (Wf u) t.heap ∧ va_D (va_A W sz) (Wf u)) (va_A W sz)) mc ms (va_A W sz)
section
variable {l : Launch} {y : MethodName} {ws ws' : List Cond} {rm : Room} {D : va_G} {cA : Nat → ClassId} {E : (Nat → Prop) → State → Heap → Prop} {av : List Value} {W0 : va_W} {Wf : UX → va_W} {po : UX → Prop} {rv : UX → Nat} {ri : UX → Int32} {ty : FieldType} {mc ms : Nat} {cc : ByteArray} {maxL : Nat}
theorem MXv.of (hy : plainName y.cls = true) (hw : ws = Cond.code y cc maxL none :: ws') (hav : (lg_sl av).length ≤ maxL)
    (body : ∀ {p : Program} {e : Env} {s : State} {m : MethodId} {args : Array Value} {below : List Frame} {meth : Method} {c : Code} {A : Nat → Prop} {ls : Array Slot} {Q : State → Prop}, p.tables.exec = Jvm.exec → c.code = cc → c.maxLocals = maxL → meth.name = y.name → (∀ w ∈ ws, w.before args s = true) → s.vm.findClass y.cls = some m.cls → va_K D vwCl (TY cA) s → E A s s.heap → va_P D vwCl W0 s.heap → va_D A W0 → (∀ q : Nat, s.heap.size ≤ q → A q) → va_S A s.heap s.heap [] → lv_has ls maxL (lv_args 0 av) →
      (∀ {H : Heap} {locs : List Loc} {ls : Array Slot} {pc : Nat} (u : UX), po u → va_P D vwCl (Wf u) H → va_D A (Wf u) → va_S A s.heap H locs → decode cc pc = .ok (.return_, 1) → W p l e (headSpec ws rm).room s m args below meth c H locs mc ms Q (F0 m pc ls [])) →
      W p l e (headSpec ws rm).room s m args below meth c s.heap [] 0 0 Q (F0 m 0 ls [])) : MXv l y ws rm D cA E av W0 Wf po mc ms := by
  intro sz
  refine Met.ofW (cc := cc) (maxL := maxL) (ret := none) hy hw ?_
  intro p e s m args below meth c s₁ B hml hv
  obtain ⟨rfl, ⟨hsz, hP, hK, hD0⟩, hN⟩ := hv
  have hlocks := B.notSynchronized
  subst hsz
  rw [lg_entry_eq]
  refine body B.exec B.bytes hml (name_of_methodNamed B.named B.method).1 (atoms_spec (ws := ws) B.pre) (findClass_of_methodNamed B.named) hK hN hP hD0.self (fun q h => Or.inr h) va_S.rf (lv_entry av hav) ?_
  intro H locs ls pc u hu hP1 hD1 hS hd
  exact W.vret B.exec B.bytes B.returns (fun t ht hW => ⟨⟨u, rfl, hu, by show va_P D vwCl (Wf u) t.heap ∧ _; rw [ht]; exact ⟨hP1, hD1⟩⟩, hS.F ht⟩) hS.2.2 hd
theorem MXr.of (hy : plainName y.cls = true) (hw : ws = Cond.code y cc maxL (some ty) :: ws') (hty : (∃ n, ty = .object n) ∨ ∃ t, ty = .array t) (hav : (lg_sl av).length ≤ maxL)
    (body : ∀ {p : Program} {e : Env} {s : State} {m : MethodId} {args : Array Value} {below : List Frame} {meth : Method} {c : Code} {A : Nat → Prop} {ls : Array Slot} {Q : State → Prop}, p.tables.exec = Jvm.exec → c.code = cc → c.maxLocals = maxL → meth.name = y.name → (∀ w ∈ ws, w.before args s = true) → s.vm.findClass y.cls = some m.cls → va_K D vwCl (TY cA) s → E A s s.heap → va_P D vwCl W0 s.heap → va_D A W0 → (∀ q : Nat, s.heap.size ≤ q → A q) → va_S A s.heap s.heap [] → lv_has ls maxL (lv_args 0 av) →
      (∀ {H : Heap} {locs : List Loc} {ls : Array Slot} {pc : Nat} (u : UX), po u → va_P D vwCl (Wf u) H → va_D A (Wf u) → va_S A s.heap H locs → decode cc pc = .ok (.areturn, 1) → W p l e (headSpec ws rm).room s m args below meth c H locs mc ms Q (F0 m pc ls [.ref (rv u)])) →
      W p l e (headSpec ws rm).room s m args below meth c s.heap [] 0 0 Q (F0 m 0 ls [])) : MXr l y ws rm D cA E av W0 Wf po rv mc ms := by
  intro sz
  refine Met.ofW (cc := cc) (maxL := maxL) (ret := some ty) hy hw ?_
  intro p e s m args below meth c s₁ B hml hv
  obtain ⟨rfl, ⟨hsz, hP, hK, hD0⟩, hN⟩ := hv
  have hlocks := B.notSynchronized
  subst hsz
  rw [lg_entry_eq]
  refine body B.exec B.bytes hml (name_of_methodNamed B.named B.method).1 (atoms_spec (ws := ws) B.pre) (findClass_of_methodNamed B.named) hK hN hP hD0.self (fun q h => Or.inr h) va_S.rf (lv_entry av hav) ?_
  intro H locs ls pc u hu hP1 hD1 hS hd
  exact W.aret (rt := ty) B.exec B.bytes B.returns hty (Or.inr ⟨rv u, rfl⟩) (fun t ht hW => ⟨⟨u, rv u, rfl, hu, rfl, by rw [ht]; exact ⟨hP1, hD1⟩⟩, hS.F ht⟩) hS.2.2 hd
theorem MXi.of (hy : plainFor y = true) (hw : ws = Cond.code y cc maxL (some ty) :: ws') (hav : (lg_sl av).length ≤ maxL)
    (body : ∀ {p : Program} {e : Env} {s : State} {m : MethodId} {args : Array Value} {below : List Frame} {meth : Method} {c : Code} {A : Nat → Prop} {ls : Array Slot} {Q : State → Prop}, p.tables.exec = Jvm.exec → c.code = cc → c.maxLocals = maxL → meth.name = y.name → (∀ w ∈ ws, w.before args s = true) → s.vm.findClass y.cls = some m.cls → va_K D vwCl (TY cA) s → E A s s.heap → va_P D vwCl W0 s.heap → va_D A W0 → (∀ q : Nat, s.heap.size ≤ q → A q) → va_S A s.heap s.heap [] → lv_has ls maxL (lv_args 0 av) →
      (∀ {H : Heap} {locs : List Loc} {ls : Array Slot} {pc : Nat} (u : UX), po u → va_P D vwCl (Wf u) H → va_D A (Wf u) → va_S A s.heap H locs → narrow ty (.int (ri u)) = .int (ri u) → decode cc pc = .ok (.ireturn, 1) → W p l e (headSpec ws rm).room s m args below meth c H locs mc ms Q (F0 m pc ls [.int (ri u)])) →
      W p l e (headSpec ws rm).room s m args below meth c s.heap [] 0 0 Q (F0 m 0 ls [])) : MXi l y ws rm D cA E ty av W0 Wf po ri mc ms := by
  intro sz
  refine Met.ofWF (cc := cc) (maxL := maxL) (ret := some ty) hy hw ?_
  intro p e s m args below meth c s₁ B hml hv
  obtain ⟨rfl, ⟨hsz, hP, hK, hD0⟩, hN⟩ := hv
  have hlocks := B.notSynchronized
  subst hsz
  rw [lg_entry_eq]
  refine body B.exec B.bytes hml (name_of_methodNamed B.named B.method).1 (atoms_spec (ws := ws) B.pre) (findClass_of_methodNamed B.named) hK hN hP hD0.self (fun q h => Or.inr h) va_S.rf (lv_entry av hav) ?_
  intro H locs ls pc u hu hP1 hD1 hS hn hd
  exact W.zret B.exec B.bytes B.returns hn (fun t ht hW => ⟨⟨ri u, u, rfl, ⟨rfl, hn, hu⟩, by show va_P D vwCl (Wf u) t.heap ∧ _; rw [ht]; exact ⟨hP1, hD1⟩⟩, hS.F ht⟩) hS.2.2 hd
end
theorem w_blindX {D : va_G} {cA : Nat → ClassId} {E : (Nat → Prop) → State → Heap → Prop} (ok : EOK E) {W : va_W} {av : List Value} {sz : Nat} : FrameBlind (va_Pc av (mWX D cA E W sz)) := fun a U g mk q => by
  obtain ⟨q0, ⟨q1, qP, qK, qD⟩, qE⟩ := q
  exact ⟨q0, ⟨q1, qP, va_K.moved (u := U) (U := U.calling g mk a) (Vm.Alike.refl U.vm) qK, qD⟩, ok.2.1 _ U (U.calling g mk a) _ rfl qE⟩
theorem va_P_suf {D : va_G} {cl : List vw_C} {w1 w2 : va_W} {H : Heap} (h : va_P D cl (w1 ++ w2) H) : va_P D cl w2 H := fun k q hk => h (w1.length + k) q (by rw [List.getElem?_append_right (by omega)]; rw [show w1.length + k - w1.length = k by omega]; exact hk)
theorem va_D_suf {A : Nat → Prop} {w1 w2 : va_W} (h : va_D A (w1 ++ w2)) : va_D A w2 := by
  have hX : ∀ (k : Nat) (q : Nat × va_E), w2[k]? = some q → (w1 ++ w2)[w1.length + k]? = some q := fun k q hk => by rw [List.getElem?_append_right (by omega), show w1.length + k - w1.length = k by omega]; exact hk
  exact ⟨fun i j p q hi hj hpq => by have := h.1 _ _ p q (hX i p hi) (hX j q hj) hpq; omega, fun k q hk => h.2 _ q (hX k q hk)⟩
theorem w_growW {D : va_G} {cl : List vw_C} {A0 : Nat → Prop} {X W w1 : va_W} {H H1 : Heap} (hP : va_P D cl (X ++ W) H) (hD : va_D A0 (X ++ W)) (hF : ∀ q, va_A W H.size q → A0 q)
    (hk : ∀ q : Nat, q < H.size → ¬ va_A W H.size q → H1[q]? = H[q]?) (hP1 : va_P D cl w1 H1) (hD1 : va_D (va_A W H.size) w1) : va_P D cl (X ++ w1) H1 ∧ va_D A0 (X ++ w1) := by
  have hX : ∀ (k : Nat) (q : Nat × va_E), X[k]? = some q → (X ++ W)[k]? = some q := fun k q h => by
    rw [List.getElem?_append_left ((List.getElem?_eq_some_iff.mp h).1)]; exact h
  have apart : ∀ (k : Nat) (q : Nat × va_E), X[k]? = some q → q.1 < H.size ∧ ¬ va_A W H.size q.1 := by
    intro k q hq
    have hl := (hP k q (hX k q hq)).lt
    refine ⟨hl, fun h => ?_⟩
    rcases h with ⟨k2, e2, h⟩ | h
    · have h3 : (X ++ W)[X.length + k2]? = some (q.1, e2) := by rw [List.getElem?_append_right (by omega), show X.length + k2 - X.length = k2 by omega]; exact h
      have := hD.1 k (X.length + k2) q (q.1, e2) (hX k q hq) h3 rfl
      have := (List.getElem?_eq_some_iff.mp hq).1
      omega
    · omega
  refine ⟨va_P.app (fun k q hq => ?_) hP1, va_D.app ⟨fun i j x y hi hj => hD.1 i j x y (hX i x hi) (hX j y hj), fun k q hq => hD.2 k q (hX k q hq)⟩ (hD1.weaken (fun k q _ h => hF q.1 h)) (fun i j x y hx hy hxy => ?_)⟩
  · obtain ⟨g1, g2⟩ := apart k q hq
    exact (hP k q (hX k q hq)).kept (hk q.1 g1 g2)
  · exact (apart i x hx).2 (by rw [hxy]; exact hD1.2 j y hy)
theorem xg_free {A : Nat → Prop} {X W : va_W} {H0 H : Heap} {locs : List Loc} (hD : va_D A (X ++ W)) (hS : va_S A H0 H locs) (hA : ∀ q : Nat, H0.size ≤ q → A q) : ∀ q, va_A W H.size q → A q := fun q h => by
  rcases h with ⟨k, e2, h⟩ | h
  · exact (va_D_suf hD).2 k _ h
  · exact hA q (Nat.le_trans hS.1 h)
section
variable {p : Program} {l : Launch} {e : Env} {R : Room} {s : State} {m : MethodId} {args : Array Value} {below : List Frame} {meth : Method} {c : Code} {H : Heap} {locs : List Loc} {cells slots : Nat} {Q : State → Prop}
variable {cc : ByteArray} {pc : Nat} {ls : Array Slot} {rest st0 : List Value} {D : va_G} {cA : Nat → ClassId} {A : Nat → Prop} {E : (Nat → Prop) → State → Heap → Prop} {H0 : Heap} {X W' : va_W}
variable {y x : MethodName} {bytes : ByteArray} {maxL nL n index mc ms : Nat} {ret : Option FieldType} {wd : List Cond} {rm : Room} {Ts : List Cond} {own owner C : String} {cC : ClassId} {b : Nat} {As : List Value} {Qc : Nat → Array Value → State → Outcome → State → Prop}
variable {Wf : UX → va_W} {po : UX → Prop} {rv : UX → Nat} {ri : UX → Int32} {ty : FieldType} {av : Array Value}
theorem xg_pre (ok : EOK E) (hE : E (va_A W' H.size) s H) (hK : va_K D vwCl (TY cA) s) (hP : va_P D vwCl (X ++ W') H) (hD : va_D A (X ++ W')) (U : State) (hU : U.heap = H) (hW : s.WarmedH U.vm) : mWX D cA E W' H.size U :=
  ⟨⟨by rw [hU], by rw [hU]; exact va_P_suf hP, va_K.moved hW.alike hK, (va_D_suf hD).weaken (fun _ _ _ _ => trivial)⟩, by rw [hU]; exact ok.1 _ s U H hW hE⟩
theorem xr_V (ok : EOK E) (hE : E (va_A W' H.size) s H) (S : CallFix p m c cc nL s args Ts own) (hl : ls.size = nL) (hM : ∀ sz, Met l y wd rm (va_Pc (.ref b :: As) (mWX D cA E W' sz)) (Qc sz) mc ms (va_A W' sz)) (cw : CallW R s args own C index y bytes maxL ret wd rm mc ms n) (hn : As.length = n)
    (hrc : ∃ cellB : Cell, H[b]? = some cellB ∧ cellB.vm.isStatics = false ∧ s.vm.findClass C = some cellB.cls) (hK : va_K D vwCl (TY cA) s) (hP : va_P D vwCl (X ++ W') H) (hD : va_D A (X ++ W')) (hroom : (rest.map fun v => v.category).sum ≤ 8) (hdg : decode cc pc = .ok (.invokevirtual index, 3)) (hf : cells + mc ≤ R.cells ∧ slots + ms ≤ R.slots) :
    va_Run p l e R s m args below meth c H locs cells slots mc ms (F0 m pc ls (As.reverse ++ .ref b :: rest)) rest (Qc H.size (Value.ref b :: As).toArray) (va_A W' H.size) :=
  va_runV (As := As) (rest := rest) S (hM H.size) cw ⟨w_blindX ok, hrc, fun U hU hW => ⟨rfl, xg_pre ok hE hK hP hD U hU hW⟩⟩ rfl hn hl rfl (lv_room hroom) hdg hf
theorem xr_U (ok : EOK E) (hE : E (va_A W' H.size) s H) (S : CallFix p m c cc nL s args Ts own) (hl : ls.size = nL) (hM : ∀ sz, Met l y wd rm (va_Pc (.ref b :: As) (mWX D cA E W' sz)) (Qc sz) mc ms (va_A W' sz)) (cw : va_CU R s args own C owner index x y bytes maxL ret wd rm mc ms n) (hn : As.length = n)
    (hrc : ∃ cellB : Cell, H[b]? = some cellB ∧ cellB.vm.isStatics = false ∧ s.vm.findClass C = some cellB.cls) (hK : va_K D vwCl (TY cA) s) (hP : va_P D vwCl (X ++ W') H) (hD : va_D A (X ++ W')) (hroom : (rest.map fun v => v.category).sum ≤ 8) (hdg : decode cc pc = .ok (.invokevirtual index, 3)) (hf : cells + mc ≤ R.cells ∧ slots + ms ≤ R.slots) :
    va_Run p l e R s m args below meth c H locs cells slots mc ms (F0 m pc ls (As.reverse ++ .ref b :: rest)) rest (Qc H.size (Value.ref b :: As).toArray) (va_A W' H.size) :=
  va_runU (As := As) (rest := rest) S (hM H.size) cw ⟨w_blindX ok, hrc, fun U hU hW => ⟨rfl, xg_pre ok hE hK hP hD U hU hW⟩⟩ rfl hn hl rfl (lv_room hroom) hdg hf
theorem xr_SU (ok : EOK E) (hE : E (va_A W' H.size) s H) (hat : ClassAt s C cC) (S : CallFix p m c cc nL s args Ts own) (hl : ls.size = nL) (hM : ∀ sz, Met l y wd rm (va_Pc (.ref b :: As) (mWX D cA E W' sz)) (Qc sz) mc ms (va_A W' sz)) (cw : va_CS R s args own index y bytes maxL ret wd rm mc ms n) (hn : As.length = n)
    (hrc : ∃ cellB : Cell, H[b]? = some cellB ∧ cellB.vm.isStatics = false ∧ s.vm.findClass C = some cellB.cls) (hK : va_K D vwCl (TY cA) s) (hP : va_P D vwCl (X ++ W') H) (hD : va_D A (X ++ W')) (hroom : (rest.map fun v => v.category).sum ≤ 8) (hdg : decode cc pc = .ok (.invokespecial index, 3)) (hf : cells + mc ≤ R.cells ∧ slots + ms ≤ R.slots) :
    va_Run p l e R s m args below meth c H locs cells slots mc ms (F0 m pc ls (As.reverse ++ .ref b :: rest)) rest (Qc H.size (Value.ref b :: As).toArray) (va_A W' H.size) :=
  va_runSU (As := As) (rest := rest) hat S (hM H.size) cw ⟨w_blindX ok, hrc, fun U hU hW => ⟨rfl, xg_pre ok hE hK hP hD U hU hW⟩⟩ rfl hn hl rfl (lv_room hroom) hdg hf
theorem xr_S (ok : EOK E) (hE : E (va_A W' H.size) s H) (S : CallFix p m c cc nL s args Ts own) (hl : ls.size = nL) (hM : ∀ sz, Met l y wd rm (va_Pc As (mWX D cA E W' sz)) (Qc sz) mc ms (va_A W' sz)) (cw : CallB R s args own index y bytes maxL ret wd rm mc ms n ∧ (Cond.static y).before args s = true) (hn : As.length = n)
    (hK : va_K D vwCl (TY cA) s) (hP : va_P D vwCl (X ++ W') H) (hD : va_D A (X ++ W')) (hroom : (rest.map fun v => v.category).sum ≤ 8) (hdg : decode cc pc = .ok (.invokestatic index, 3)) (hf : cells + mc ≤ R.cells ∧ slots + ms ≤ R.slots) :
    va_Run p l e R s m args below meth c H locs cells slots mc ms (F0 m pc ls (As.reverse ++ rest)) rest (Qc H.size As.toArray) (va_A W' H.size) :=
  va_runS (As := As) (rest := rest) S (hM H.size) cw ⟨w_blindX ok, fun U hU hW => ⟨rfl, xg_pre ok hE hK hP hD U hU hW⟩⟩ rfl hn hl rfl (lv_room hroom) hdg hf
theorem xr_I (ok : EOK E) (hE : E (va_A W' H.size) s H) (S : CallFix p m c cc nL s args Ts own) (hl : ls.size = nL) (hM : ∀ sz, Met l y wd rm (va_Pc (.ref b :: As) (mWX D cA E W' sz)) (Qc sz) mc ms (va_A W' sz)) (cw : CallB R s args own index y bytes maxL none wd rm mc ms n ∧ y.name = "<init>" ∧ (Cond.instanceMethod y).before args s = true) (hn : As.length = n)
    (hK : va_K D vwCl (TY cA) s) (hP : va_P D vwCl (X ++ W') H) (hD : va_D A (X ++ W')) (hroom : (rest.map fun v => v.category).sum ≤ 8) (hdg : decode cc pc = .ok (.invokespecial index, 3)) (hf : cells + mc ≤ R.cells ∧ slots + ms ≤ R.slots) :
    va_Run p l e R s m args below meth c H locs cells slots mc ms (F0 m pc ls (As.reverse ++ .ref b :: rest)) rest (Qc H.size (Value.ref b :: As).toArray) (va_A W' H.size) :=
  va_runI (As := As) (rest := rest) S (hM H.size) cw ⟨w_blindX ok, fun U hU hW => ⟨rfl, xg_pre ok hE hK hP hD U hU hW⟩⟩ rfl hn hl rfl (lv_room hroom) hdg hf
/-- behind a call: the caller's other cells X as they were, the callee's W' as Wf u -/
theorem xg_v (hr : va_Run p l e R s m args below meth c H locs cells slots mc ms (F0 m pc ls st0) rest (va_Qv po (fun u t => va_P D vwCl (Wf u) t.heap ∧ va_D (va_A W' H.size) (Wf u)) (va_A W' H.size) av) (va_A W' H.size)) (hP : va_P D vwCl (X ++ W') H) (hD : va_D A (X ++ W')) (hS : va_S A H0 H locs) (hA : ∀ q : Nat, H0.size ≤ q → A q)
    (kk : ∀ (u : UX) (H1 : Heap) (locs1 : List Loc), po u → va_P D vwCl (X ++ Wf u) H1 → va_D A (X ++ Wf u) → va_S A H0 H1 locs1 → W p l e R s m args below meth c H1 locs1 (cells + mc) (slots + ms) Q (F0 m (pc + 3) ls rest)) : W p l e R s m args below meth c H locs cells slots Q (F0 m pc ls st0) := by
  have hF := xg_free hD hS hA
  refine va_callv hr hS (fun q _ h => hF q h) hF (fun u t H1 locs1 ht hvm hw hB hz1 hk1 hS1 => ?_)
  rw [ht] at hB
  obtain ⟨hP2, hD2⟩ := w_growW hP hD hF hk1 hB.1 hB.2
  exact kk u H1 locs1 hw hP2 hD2 hS1
theorem xg_r (hr : va_Run p l e R s m args below meth c H locs cells slots mc ms (F0 m pc ls st0) rest (va_Qr po (fun u a t => a = rv u ∧ va_P D vwCl (Wf u) t.heap ∧ va_D (va_A W' H.size) (Wf u)) (va_A W' H.size) av) (va_A W' H.size)) (hP : va_P D vwCl (X ++ W') H) (hD : va_D A (X ++ W')) (hS : va_S A H0 H locs) (hA : ∀ q : Nat, H0.size ≤ q → A q)
    (kk : ∀ (u : UX) (H1 : Heap) (locs1 : List Loc), po u → va_P D vwCl (X ++ Wf u) H1 → va_D A (X ++ Wf u) → va_S A H0 H1 locs1 → W p l e R s m args below meth c H1 locs1 (cells + mc) (slots + ms) Q (F0 m (pc + 3) ls (.ref (rv u) :: rest))) : W p l e R s m args below meth c H locs cells slots Q (F0 m pc ls st0) := by
  have hF := xg_free hD hS hA
  refine va_callr hr hS (fun q _ h => hF q h) hF (fun u ra t H1 locs1 ht hvm hw hB hz1 hk1 hS1 => ?_)
  obtain ⟨rfl, hB⟩ := hB
  rw [ht] at hB
  obtain ⟨hP2, hD2⟩ := w_growW hP hD hF hk1 hB.1 hB.2
  exact kk u H1 locs1 hw hP2 hD2 hS1
theorem xg_i (hr : va_Run p l e R s m args below meth c H locs cells slots mc ms (F0 m pc ls st0) rest (va_Qi (fun (x : Int32) (u : UX) => x = ri u ∧ narrow ty (.int x) = .int x ∧ po u) (fun u t => va_P D vwCl (Wf u) t.heap ∧ va_D (va_A W' H.size) (Wf u)) (va_A W' H.size) av) (va_A W' H.size)) (hP : va_P D vwCl (X ++ W') H) (hD : va_D A (X ++ W')) (hS : va_S A H0 H locs) (hA : ∀ q : Nat, H0.size ≤ q → A q)
    (kk : ∀ (u : UX) (H1 : Heap) (locs1 : List Loc), po u → va_P D vwCl (X ++ Wf u) H1 → va_D A (X ++ Wf u) → va_S A H0 H1 locs1 → narrow ty (.int (ri u)) = .int (ri u) → W p l e R s m args below meth c H1 locs1 (cells + mc) (slots + ms) Q (F0 m (pc + 3) ls (.int (ri u) :: rest))) : W p l e R s m args below meth c H locs cells slots Q (F0 m pc ls st0) := by
  have hF := xg_free hD hS hA
  refine va_calli hr hS (fun q _ h => hF q h) hF (fun r2 u t H1 locs1 ht hvm hw hB hz1 hk1 hS1 => ?_)
  obtain ⟨rfl, hnr, hu⟩ := hw
  rw [ht] at hB
  obtain ⟨hP2, hD2⟩ := w_growW hP hD hF hk1 hB.1 hB.2
  exact kk u H1 locs1 hu hP2 hD2 hS1 hnr
end
