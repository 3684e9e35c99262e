/-! what stands outside a method's cells: the String constants (0 row, 1 weight, 2 block, 3 ties, 4 first, 5 last, 6 least, 7 most, 8 a blank, 9 ;block, 10 ;ties, 11 a semicolon, 12 weight with a blank), two statics, the links that only nest mates have -/
def lenS : List Nat := [3, 6, 5, 4, 5, 4, 5, 4, 1, 7, 6, 1, 7]
def bytS : List (List Int32) := [[114, 111, 119], [119, 101, 105, 103, 104, 116], [98, 108, 111, 99, 107], [116, 105, 101, 115], [102, 105, 114, 115, 116], [108, 97, 115, 116], [108, 101, 97, 115, 116], [109, 111, 115, 116], [32], [59, 98, 108, 111, 99, 107, 32], [59, 116, 105, 101, 115, 32], [59], [119, 101, 105, 103, 104, 116, 32]]
def sL (i : Nat) : Int32 := nI (lenS.getD i 0)
def sC (i : Nat) (k : Int32) : Option Int32 := (rd (fun j => (bytS.getD i []).getD j 0) (lenS.getD i 0) k).bind fun v => some (Int32.toUInt32 (v &&& 255) % 65536).toInt32
def EV (adK adV : Nat → Nat) (A : Nat → Prop) (U : State) (H : Heap) : Prop :=
  vk_S 13 lenS bytS adK adV A U H ∧ va_Z "java/lang/String" "COMPACT_STRINGS" "Z" (.int 1) A U H ∧ va_Zq "jdk/internal/util/Preconditions" "SIOOBE_FORMATTER" "Ljava/util/function/BiFunction;" A U H
def ER (adK : Nat → Nat) (U : State) : Prop :=
  vk_R "ModeDesk$Reader" 60 "row" (adK 0) U ∧ vk_R "ModeDesk$Reader" 68 "weight" (adK 1) U ∧ vk_R "ModeDesk$Reader" 73 "block" (adK 2) U ∧ vk_R "ModeDesk$Reader" 77 "ties" (adK 3) U ∧ vk_R "ModeDesk$Reader" 114 "first" (adK 4) U ∧ vk_R "ModeDesk$Reader" 116 "last" (adK 5) U ∧ vk_R "ModeDesk$Reader" 118 "least" (adK 6) U ∧ vk_R "ModeDesk$Reader" 120 "most" (adK 7) U ∧ va_Nw (.methodLinkNest "ModeDesk$Reader" 91 ⟨"ModeDesk", "isValue", "(I)Z"⟩ "ModeDesk") U ∧ vk_R "ModeDeskLaw" 51 "row" (adK 0) U ∧ vk_R "ModeDeskLaw" 21 " " (adK 8) U ∧ vk_R "ModeDeskLaw" 62 ";block " (adK 9) U ∧ vk_R "ModeDeskLaw" 67 ";ties " (adK 10) U ∧ vk_R "ModeDeskLaw" 76 ";" (adK 11) U ∧ vk_R "ModeDeskLaw" 81 "weight " (adK 12) U
theorem EV.moved {adK adV : Nat → Nat} {A : Nat → Prop} {u U : State} {H : Heap} (hvm : u.vm.Alike U.vm) (h : EV adK adV A u H) : EV adK adV A U H := ⟨h.1.moved hvm, h.2.1.moved hvm, h.2.2.moved hvm⟩
theorem EV.kept {adK adV : Nat → Nat} {A : Nat → Prop} {U : State} {H H1 : Heap} (h : EV adK adV A U H) (hq : ∀ a : Nat, a < H.size → ¬ A a → H1[a]? = H[a]?) : EV adK adV A U H1 := ⟨h.1.kept hq, h.2.1.kept hq, h.2.2.kept hq⟩
theorem EV.narrow {adK adV : Nat → Nat} {A B : Nat → Prop} {U : State} {H : Heap} (h : EV adK adV A U H) (hAB : ∀ q, B q → A q) : EV adK adV B U H := ⟨h.1.narrow hAB, h.2.1.narrow hAB, h.2.2.narrow hAB⟩
theorem ER.warm {adK : Nat → Nat} {s U : State} (hW : s.WarmedH U.vm) (h : ER adK s) : ER adK U := by
  obtain ⟨a, b, c, d, e, f, g, i, n, j1, j2, j3, j4, j5, j6⟩ := h
  exact ⟨a.warm hW, b.warm hW, c.warm hW, d.warm hW, e.warm hW, f.warm hW, g.warm hW, i.warm hW, va_Nw.warmM hW n, j1.warm hW, j2.warm hW, j3.warm hW, j4.warm hW, j5.warm hW, j6.warm hW⟩
theorem ER.same {adK : Nat → Nat} {u U : State} (hv : U.vm = u.vm) (h : ER adK u) : ER adK U := by
  obtain ⟨a, b, c, d, e, f, g, i, n, j1, j2, j3, j4, j5, j6⟩ := h
  exact ⟨a.same hv, b.same hv, c.same hv, d.same hv, e.same hv, f.same hv, g.same hv, i.same hv, va_Nw.same rfl hv.symm n, j1.same hv, j2.same hv, j3.same hv, j4.same hv, j5.same hv, j6.same hv⟩
abbrev mWe (D : va_G) (cA : Nat → ClassId) (adK adV : Nat → Nat) (W : va_W) (sz : Nat) : State → Prop := fun U => mW D cA W sz U ∧ EV adK adV (va_A W sz) U U.heap ∧ ER adK U
def MIe (l : Launch) (y : MethodName) (ws : List Cond) (rm : Room) (D : va_G) (cA : Nat → ClassId) (adK adV : Nat → Nat) (ty : FieldType) (av : List Value) (W W' : va_W) (r : Int32) : Prop :=
  ∀ sz : Nat, Met l y ws rm (va_Pc av (mWe D cA adK adV W sz)) (va_Qi (fun (x : Int32) (_ : Unit) => x = r ∧ narrow ty (.int x) = .int x) (fun _ t => va_P D vwCl W' t.heap) (va_A W sz)) 0 0 (va_A W sz)
def MVe (l : Launch) (y : MethodName) (ws : List Cond) (rm : Room) (D : va_G) (cA : Nat → ClassId) (adK adV : Nat → Nat) (av : List Value) (W W' : va_W) : Prop :=
  ∀ sz : Nat, Met l y ws rm (va_Pc av (mWe D cA adK adV W sz)) (va_Qv (fun (_ : Unit) => True) (fun _ t => va_P D vwCl W' t.heap) (va_A W sz)) 0 0 (va_A W sz)
theorem MIe.of {l : Launch} {y : MethodName} {ws ws' : List Cond} {rm : Room} {D : va_G} {cA : Nat → ClassId} {adK adV : Nat → Nat} {ty : FieldType} {av : List Value} {W0 W' : va_W} {r : Int32} {cc : ByteArray} {maxL : Nat} (hy : plainFor y = true) (hw : ws = Cond.code y cc maxL (some ty) :: ws') (hrc : rm.cells = 0) (hrs : rm.slots = 0) (hav : (lg_sl av).length ≤ maxL)
    (body : ∀ {p : Program} {e : Env} {s : State} {m : MethodId} {args : Array Value} {below : List Frame} {meth : Method} {c : Code} {A : Nat → Prop} {ls : Array Slot} {Q : State → Prop}, p.tables.exec = Jvm.exec → c.code = cc → c.maxLocals = maxL → (∀ w ∈ ws, w.before args s = true) → s.vm.findClass y.cls = some m.cls → va_K D vwCl (TY cA) s → va_P D vwCl W0 s.heap → va_D A W0 → (∀ q : Nat, s.heap.size ≤ q → A q) → va_S A s.heap s.heap [] → EV adK adV A s s.heap → ER adK s → lv_has ls maxL (lv_args 0 av) →
      (∀ {H : Heap} {locs : List Loc} {ls : Array Slot} {pc : Nat}, va_P D vwCl W' H → va_S A s.heap H locs → narrow ty (.int r) = .int r → decode cc pc = .ok (.ireturn, 1) → W p l e (headSpec ws rm).room s m args below meth c H locs 0 0 Q (F0 m pc ls [.int r])) →
      W p l e (headSpec ws rm).room s m args below meth c s.heap [] 0 0 Q (F0 m 0 ls [])) : MIe l y ws rm D cA adK adV ty av W0 W' r := by
  intro sz
  refine Met.ofWF (cc := cc) (maxL := maxL) (ret := some ty) hy hw ?_
  intro p e s m args below meth c s₁ B hml hv
  obtain ⟨rfl, ⟨hsz, hP, hK, hD0⟩, hE, hR⟩ := hv
  have hlocks := B.notSynchronized
  subst hsz
  rw [lg_entry_eq]
  refine body B.exec B.bytes hml (atoms_spec (ws := ws) B.pre) (findClass_of_methodNamed B.named) hK hP hD0.self (fun q h => Or.inr h) va_S.rf hE hR (lv_entry av hav) ?_
  intro H locs ls pc hP1 hS hn hd
  exact W.zret B.exec B.bytes B.returns hn (fun t ht hW => ⟨⟨r, (), rfl, ⟨rfl, hn⟩, by show va_P D vwCl W' t.heap; rw [ht]; exact hP1⟩, hS.F ht⟩) hS.2.2 hd
theorem MVe.of {l : Launch} {y : MethodName} {ws ws' : List Cond} {rm : Room} {D : va_G} {cA : Nat → ClassId} {adK adV : Nat → Nat} {av : List Value} {W0 W' : va_W} {cc : ByteArray} {maxL : Nat} (hy : plainName y.cls = true) (hw : ws = Cond.code y cc maxL none :: ws') (hrc : rm.cells = 0) (hrs : rm.slots = 0) (hav : (lg_sl av).length ≤ maxL)
    (body : ∀ {p : Program} {e : Env} {s : State} {m : MethodId} {args : Array Value} {below : List Frame} {meth : Method} {c : Code} {A : Nat → Prop} {ls : Array Slot} {Q : State → Prop}, p.tables.exec = Jvm.exec → c.code = cc → c.maxLocals = maxL → (∀ w ∈ ws, w.before args s = true) → s.vm.findClass y.cls = some m.cls → va_K D vwCl (TY cA) s → va_P D vwCl W0 s.heap → va_D A W0 → (∀ q : Nat, s.heap.size ≤ q → A q) → va_S A s.heap s.heap [] → EV adK adV A s s.heap → ER adK s → lv_has ls maxL (lv_args 0 av) →
      (∀ {H : Heap} {locs : List Loc} {ls : Array Slot} {pc : Nat}, va_P D vwCl W' H → va_S A s.heap H locs → decode cc pc = .ok (.return_, 1) → W p l e (headSpec ws rm).room s m args below meth c H locs 0 0 Q (F0 m pc ls [])) →
      W p l e (headSpec ws rm).room s m args below meth c s.heap [] 0 0 Q (F0 m 0 ls [])) : MVe l y ws rm D cA adK adV av W0 W' := by
  intro sz
  refine Met.ofW (cc := cc) (maxL := maxL) (ret := none) hy hw ?_
  intro p e s m args below meth c s₁ B hml hv
  obtain ⟨rfl, ⟨hsz, hP, hK, hD0⟩, hE, hR⟩ := hv
  have hlocks := B.notSynchronized
  subst hsz
  rw [lg_entry_eq]
  refine body B.exec B.bytes hml (atoms_spec (ws := ws) B.pre) (findClass_of_methodNamed B.named) hK hP hD0.self (fun q h => Or.inr h) va_S.rf hE hR (lv_entry av hav) ?_
  intro H locs ls pc hP1 hS hd
  exact W.vret B.exec B.bytes B.returns (fun t ht hW => ⟨⟨(), rfl, trivial, by show va_P D vwCl W' t.heap; rw [ht]; exact hP1⟩, hS.F ht⟩) hS.2.2 hd
theorem w_blindE {D : va_G} {cA : Nat → ClassId} {adK adV : Nat → Nat} {W : va_W} {av : List Value} {sz : Nat} : FrameBlind (va_Pc av (mWe D cA adK adV W sz)) := fun a U g mk q => by
  obtain ⟨q0, ⟨q1, qP, qK, qD⟩, qE, qR⟩ := q
  exact ⟨q0, ⟨q1, qP, va_K.moved (u := U) (U := U.calling g mk a) (Vm.Alike.refl U.vm) qK, qD⟩, EV.moved (u := U) (U := U.calling g mk a) (Vm.Alike.refl U.vm) qE, ER.same (u := U) (U := U.calling g mk a) rfl qR⟩
section
variable {p : Program} {l : Launch} {e : Env} {R : Room} {s : State} {m : MethodId} {args : Array Value} {below : List Frame} {meth : Method} {c : Code} {H : Heap} {locs : List Loc} {cells slots : Nat} {Q : State → Prop}
variable {cc : ByteArray} {pc : Nat} {ls : Array Slot} {rest : List Value} {D : va_G} {cA : Nat → ClassId} {adK adV : Nat → Nat} {A : Nat → Prop} {a : Nat}
variable {y : MethodName} {bytes : ByteArray} {maxL nL n index ci : Nat} {ret : Option FieldType} {wd : List Cond} {rm : Room} {Ts : List Cond} {own C host : String} {b : Nat} {As : List Value} {Wd Wc Wc' : va_W} {r : Int32} {ty : FieldType} {is : List Nat}
theorem w_env (hE : EV adK adV A s s.heap) (hR : ER adK s) (hS : va_S A s.heap H locs) (hF : ∀ q, va_A Wc H.size q → A q) (U : State) (hU : U.heap = H) (hW : s.WarmedH U.vm) : EV adK adV (va_A Wc H.size) U U.heap ∧ ER adK U :=
  ⟨by rw [hU]; exact ((hE.kept hS.2.1).narrow hF).moved hW.alike, hR.warm hW⟩
/-- a call of an object's method that gives an int; the receiver by its cell -/
theorem xv_ie (hE : EV adK adV A s s.heap) (hR : ER adK s) (S : CallFix p m c cc nL s args Ts own) (hl : ls.size = nL) (hM : MIe l y wd rm D cA adK adV ty (.ref b :: As) Wc Wc' r) (cw : CallW R s args own C index y bytes maxL ret wd rm 0 0 n) (hn : As.length = n)
    (hK : va_K D vwCl (TY cA) s) (hP : va_P D vwCl Wd H) (hD : va_D A Wd) (hS : va_S A s.heap H locs) (hA : ∀ q : Nat, s.heap.size ≤ q → A q)
    (hrc : ∃ cellB : Cell, H[b]? = some cellB ∧ cellB.vm.isStatics = false ∧ s.vm.findClass C = some cellB.cls) (is : List Nat) (hC : is.map (fun i => Wd[i]?) = Wc.map some) (hnd : va_nd is = true) (hfst : Wc'.map Prod.fst = Wc.map Prod.fst)
    (hroom : (rest.map fun v => v.category).sum ≤ 8) (hdg : decode cc pc = .ok (.invokevirtual index, 3)) (hf : cells + 0 ≤ R.cells ∧ slots + 0 ≤ R.slots)
    (kk : ∀ (H1 : Heap) (locs1 : List Loc), va_P D vwCl (w_put Wd is Wc') H1 → va_D A (w_put Wd is Wc') → va_S A s.heap H1 locs1 → narrow ty (.int r) = .int r → W p l e R s m args below meth c H1 locs1 cells slots Q (F0 m (pc + 3) ls (.int r :: rest))) :
    W p l e R s m args below meth c H locs cells slots Q (F0 m pc ls (As.reverse ++ .ref b :: rest)) := by
  have hPc := w_cut hC hP
  have hDc := w_cutD hC hnd hD
  have hFc := va_free (wc := Wc) hD hS hA is hC
  refine va_calli (va_runV (As := As) (rest := rest) S (hM H.size) cw ⟨w_blindE, hrc, fun U hU hW => ⟨rfl, ⟨by rw [hU], by rw [hU]; exact hPc, va_K.moved hW.alike hK, hDc.weaken (fun _ _ _ _ => trivial)⟩, w_env hE hR hS hFc U hU hW⟩⟩ rfl hn hl rfl (lv_room hroom) hdg hf) hS (fun q _ h => hFc q h) hFc (fun r2 u t H1 locs1 ht hvm hw hB hz1 hk1 hS1 => ?_)
  obtain ⟨rfl, hnr⟩ := hw
  rw [ht] at hB
  obtain ⟨hP2, hD2⟩ := w_back hP hD hC hfst hk1 hB
  exact kk H1 locs1 hP2 hD2 hS1 hnr
theorem xv_ve (hE : EV adK adV A s s.heap) (hR : ER adK s) (S : CallFix p m c cc nL s args Ts own) (hl : ls.size = nL) (hM : MVe l y wd rm D cA adK adV (.ref b :: As) Wc Wc') (cw : CallW R s args own C index y bytes maxL ret wd rm 0 0 n) (hn : As.length = n)
    (hK : va_K D vwCl (TY cA) s) (hP : va_P D vwCl Wd H) (hD : va_D A Wd) (hS : va_S A s.heap H locs) (hA : ∀ q : Nat, s.heap.size ≤ q → A q)
    (hrc : ∃ cellB : Cell, H[b]? = some cellB ∧ cellB.vm.isStatics = false ∧ s.vm.findClass C = some cellB.cls) (is : List Nat) (hC : is.map (fun i => Wd[i]?) = Wc.map some) (hnd : va_nd is = true) (hfst : Wc'.map Prod.fst = Wc.map Prod.fst)
    (hroom : (rest.map fun v => v.category).sum ≤ 8) (hdg : decode cc pc = .ok (.invokevirtual index, 3)) (hf : cells + 0 ≤ R.cells ∧ slots + 0 ≤ R.slots)
    (kk : ∀ (H1 : Heap) (locs1 : List Loc), va_P D vwCl (w_put Wd is Wc') H1 → va_D A (w_put Wd is Wc') → va_S A s.heap H1 locs1 → W p l e R s m args below meth c H1 locs1 cells slots Q (F0 m (pc + 3) ls rest)) :
    W p l e R s m args below meth c H locs cells slots Q (F0 m pc ls (As.reverse ++ .ref b :: rest)) := by
  have hPc := w_cut hC hP
  have hDc := w_cutD hC hnd hD
  have hFc := va_free (wc := Wc) hD hS hA is hC
  refine va_callv (va_runV (As := As) (rest := rest) S (hM H.size) cw ⟨w_blindE, hrc, fun U hU hW => ⟨rfl, ⟨by rw [hU], by rw [hU]; exact hPc, va_K.moved hW.alike hK, hDc.weaken (fun _ _ _ _ => trivial)⟩, w_env hE hR hS hFc U hU hW⟩⟩ rfl hn hl rfl (lv_room hroom) hdg hf) hS (fun q _ h => hFc q h) hFc (fun u t H1 locs1 ht hvm hw hB hz1 hk1 hS1 => ?_)
  rw [ht] at hB
  obtain ⟨hP2, hD2⟩ := w_back hP hD hC hfst hk1 hB
  exact kk H1 locs1 hP2 hD2 hS1
theorem xs_ie (hE : EV adK adV A s s.heap) (hR : ER adK s) (S : CallFix p m c cc nL s args Ts own) (hl : ls.size = nL) (hM : MIe l y wd rm D cA adK adV ty As Wc Wc' r) (cw : CallB R s args own index y bytes maxL ret wd rm 0 0 n ∧ (Cond.static y).before args s = true) (hn : As.length = n)
    (hK : va_K D vwCl (TY cA) s) (hP : va_P D vwCl Wd H) (hD : va_D A Wd) (hS : va_S A s.heap H locs) (hA : ∀ q : Nat, s.heap.size ≤ q → A q)
    (is : List Nat) (hC : is.map (fun i => Wd[i]?) = Wc.map some) (hnd : va_nd is = true) (hfst : Wc'.map Prod.fst = Wc.map Prod.fst)
    (hroom : (rest.map fun v => v.category).sum ≤ 8) (hdg : decode cc pc = .ok (.invokestatic index, 3)) (hf : cells + 0 ≤ R.cells ∧ slots + 0 ≤ R.slots)
    (kk : ∀ (H1 : Heap) (locs1 : List Loc), va_P D vwCl (w_put Wd is Wc') H1 → va_D A (w_put Wd is Wc') → va_S A s.heap H1 locs1 → narrow ty (.int r) = .int r → W p l e R s m args below meth c H1 locs1 cells slots Q (F0 m (pc + 3) ls (.int r :: rest))) :
    W p l e R s m args below meth c H locs cells slots Q (F0 m pc ls (As.reverse ++ rest)) := by
  have hPc := w_cut hC hP
  have hDc := w_cutD hC hnd hD
  have hFc := va_free (wc := Wc) hD hS hA is hC
  refine va_calli (va_runS (As := As) (rest := rest) S (hM H.size) cw ⟨w_blindE, fun U hU hW => ⟨rfl, ⟨by rw [hU], by rw [hU]; exact hPc, va_K.moved hW.alike hK, hDc.weaken (fun _ _ _ _ => trivial)⟩, w_env hE hR hS hFc U hU hW⟩⟩ rfl hn hl rfl (lv_room hroom) hdg hf) hS (fun q _ h => hFc q h) hFc (fun r2 u t H1 locs1 ht hvm hw hB hz1 hk1 hS1 => ?_)
  obtain ⟨rfl, hnr⟩ := hw
  rw [ht] at hB
  obtain ⟨hP2, hD2⟩ := w_back hP hD hC hfst hk1 hB
  exact kk H1 locs1 hP2 hD2 hS1 hnr
theorem xs_ve (hE : EV adK adV A s s.heap) (hR : ER adK s) (S : CallFix p m c cc nL s args Ts own) (hl : ls.size = nL) (hM : MVe l y wd rm D cA adK adV As Wc Wc') (cw : CallB R s args own index y bytes maxL ret wd rm 0 0 n ∧ (Cond.static y).before args s = true) (hn : As.length = n)
    (hK : va_K D vwCl (TY cA) s) (hP : va_P D vwCl Wd H) (hD : va_D A Wd) (hS : va_S A s.heap H locs) (hA : ∀ q : Nat, s.heap.size ≤ q → A q)
    (is : List Nat) (hC : is.map (fun i => Wd[i]?) = Wc.map some) (hnd : va_nd is = true) (hfst : Wc'.map Prod.fst = Wc.map Prod.fst)
    (hroom : (rest.map fun v => v.category).sum ≤ 8) (hdg : decode cc pc = .ok (.invokestatic index, 3)) (hf : cells + 0 ≤ R.cells ∧ slots + 0 ≤ R.slots)
    (kk : ∀ (H1 : Heap) (locs1 : List Loc), va_P D vwCl (w_put Wd is Wc') H1 → va_D A (w_put Wd is Wc') → va_S A s.heap H1 locs1 → W p l e R s m args below meth c H1 locs1 cells slots Q (F0 m (pc + 3) ls rest)) :
    W p l e R s m args below meth c H locs cells slots Q (F0 m pc ls (As.reverse ++ rest)) := by
  have hPc := w_cut hC hP
  have hDc := w_cutD hC hnd hD
  have hFc := va_free (wc := Wc) hD hS hA is hC
  refine va_callv (va_runS (As := As) (rest := rest) S (hM H.size) cw ⟨w_blindE, fun U hU hW => ⟨rfl, ⟨by rw [hU], by rw [hU]; exact hPc, va_K.moved hW.alike hK, hDc.weaken (fun _ _ _ _ => trivial)⟩, w_env hE hR hS hFc U hU hW⟩⟩ rfl hn hl rfl (lv_room hroom) hdg hf) hS (fun q _ h => hFc q h) hFc (fun u t H1 locs1 ht hvm hw hB hz1 hk1 hS1 => ?_)
  rw [ht] at hB
  obtain ⟨hP2, hD2⟩ := w_back hP hD hC hfst hk1 hB
  exact kk H1 locs1 hP2 hD2 hS1
/-- a static call that only a nest mate may make -/
theorem xs_in (S : CallFix p m c cc nL s args Ts own) (hl : ls.size = nL) (hM : MI l y wd rm D cA ty As Wc Wc' r) (cw : va_CN R s args own index y host bytes maxL ret wd rm 0 0 n ∧ (Cond.static y).before args s = true ∧ True) (hn : As.length = n)
    (hK : va_K D vwCl (TY cA) s) (hP : va_P D vwCl Wd H) (hD : va_D A Wd) (hS : va_S A s.heap H locs) (hA : ∀ q : Nat, s.heap.size ≤ q → A q)
    (is : List Nat) (hC : is.map (fun i => Wd[i]?) = Wc.map some) (hnd : va_nd is = true) (hfst : Wc'.map Prod.fst = Wc.map Prod.fst)
    (hroom : (rest.map fun v => v.category).sum ≤ 8) (hdg : decode cc pc = .ok (.invokestatic index, 3)) (hf : cells + 0 ≤ R.cells ∧ slots + 0 ≤ R.slots)
    (kk : ∀ (H1 : Heap) (locs1 : List Loc), va_P D vwCl (w_put Wd is Wc') H1 → va_D A (w_put Wd is Wc') → va_S A s.heap H1 locs1 → narrow ty (.int r) = .int r → W p l e R s m args below meth c H1 locs1 cells slots Q (F0 m (pc + 3) ls (.int r :: rest))) :
    W p l e R s m args below meth c H locs cells slots Q (F0 m pc ls (As.reverse ++ rest)) := by
  have hPc := w_cut hC hP
  have hDc := w_cutD hC hnd hD
  have hFc := va_free (wc := Wc) hD hS hA is hC
  refine va_calli (va_runSN (As := As) (rest := rest) S (hM H.size) cw ⟨w_blind, fun U hU hW => ⟨rfl, by rw [hU], by rw [hU]; exact hPc, va_K.moved hW.alike hK, hDc.weaken (fun _ _ _ _ => trivial)⟩⟩ rfl hn hl rfl (lv_room hroom) hdg hf) hS (fun q _ h => hFc q h) hFc (fun r2 u t H1 locs1 ht hvm hw hB hz1 hk1 hS1 => ?_)
  obtain ⟨rfl, hnr⟩ := hw
  rw [ht] at hB
  obtain ⟨hP2, hD2⟩ := w_back hP hD hC hfst hk1 hB
  exact kk H1 locs1 hP2 hD2 hS1 hnr
/-- the cell of a String constant -/
theorem w_str {i : Nat} (hE : EV adK adV A s s.heap) (hS : va_S A s.heap H locs) (hi : i < 13) : ∃ cellB : Cell, H[adK i]? = some cellB ∧ cellB.vm.isStatics = false ∧ s.vm.findClass "java/lang/String" = some cellB.cls := by
  obtain ⟨cell, h1, h2, h3, -⟩ := ((hE.1.1 i hi).1).kept hS.2.1
  exact ⟨cell, h1, h2, h3⟩
theorem w_sval (hE : EV adK adV A s s.heap) : va_Ef 13 "java/lang/String" "value" "[B" (fun i => .ref (adV i)) adK A s s.heap := fun i hi => (hE.1.1 i hi).2.2.1
theorem w_scod (hE : EV adK adV A s s.heap) : va_Ef 13 "java/lang/String" "coder" "B" (fun _ => .int 0) adK A s s.heap := fun i hi => (hE.1.1 i hi).2.1
theorem w_sarr {i : Nat} (hE : EV adK adV A s s.heap) (hi : i < 13) : va_T .byte (adV i) (lenS.getD i 0) (fun j => .int ((bytS.getD i []).getD j 0)) A s s.heap := (hE.1.1 i hi).2.2.2
end
theorem lenS_lt {i : Nat} (hi : i < 13) : lenS.getD i 0 < 2 ^ 31 := by
  match i, hi with
  | 0, _ | 1, _ | 2, _ | 3, _ | 4, _ | 5, _ | 6, _ | 7, _ | 8, _ | 9, _ | 10, _ | 11, _ | 12, _ => decide
  | n + 13, h => omega
/-! the JDK's own members over the constants -/
set_option maxHeartbeats 4000000 in
set_option maxRecDepth 100000 in
theorem kJ0_coder (l : Launch) (D : va_G) (cA : Nat → ClassId) (adK adV : Nat → Nat) (i : Nat) (hi : i < 13) : MIe l yJ0_coder_7d493 wsJ0_coder_7d493 { frames := 0, cells := 0, slots := 0, locals := 0 } D cA adK adV .byte [.ref (adK i)] [] [] 0 := by
  refine MIe.of (cc := cJ0_coder_7d493) (maxL := 1) (by decide +kernel) rfl rfl rfl (Nat.le_of_ble_eq_true rfl) ?_
  intro p e s m args below meth c A ls Q hx hb hml hts hown hK hP hD hA hS hE hR hl hret
  have hl : lv_has ls 1 [(0, .ref (adK i))] := hl
  refine va_gets (v := .int 1) hx hb hE.2.1 hS hown (hts (.fieldLink RJ0 38 "java/lang/String" "COMPACT_STRINGS" "Z") (by decide +kernel)) (fun _ h => h) dJ0_coder_7d493_0 ?_
  refine lv_if_eq (tgt := 13) hx hb dJ0_coder_7d493_3 (by decide) (fun c1 => absurd c1 (by decide)) (fun _ => ?_)
  refine lv_aload_n hx hb dJ0_coder_7d493_6 rfl (lv_at hl 0 rfl) ?_
  refine va_getX (i := i) (v := fun _ => .int 0) hx hb (w_scod hE) hi hS hown (hts (.fieldLink RJ0 15 "java/lang/String" "coder" "B") (by decide +kernel)) (fun _ h => h) dJ0_coder_7d493_7 ?_
  refine lv_goto (tgt := 14) hx hb dJ0_coder_7d493_10 (by decide) ?_
  exact hret hP hS rfl dJ0_coder_7d493_14
set_option maxHeartbeats 4000000 in
set_option maxRecDepth 100000 in
theorem kJ0_isLatin1 (l : Launch) (D : va_G) (cA : Nat → ClassId) (adK adV : Nat → Nat) (i : Nat) (hi : i < 13) : MIe l yJ0_isLatin1_aae02 wsJ0_isLatin1_aae02 { frames := 0, cells := 0, slots := 0, locals := 0 } D cA adK adV .boolean [.ref (adK i)] [] [] 1 := by
  refine MIe.of (cc := cJ0_isLatin1_aae02) (maxL := 1) (by decide +kernel) rfl rfl rfl (Nat.le_of_ble_eq_true rfl) ?_
  intro p e s m args below meth c A ls Q hx hb hml hts hown hK hP hD hA hS hE hR hl hret
  have hl : lv_has ls 1 [(0, .ref (adK i))] := hl
  refine va_gets (v := .int 1) hx hb hE.2.1 hS hown (hts (.fieldLink RJ0 38 "java/lang/String" "COMPACT_STRINGS" "Z") (by decide +kernel)) (fun _ h => h) dJ0_isLatin1_aae02_0 ?_
  refine lv_if_eq (tgt := 17) hx hb dJ0_isLatin1_aae02_3 (by decide) (fun c1 => absurd c1 (by decide)) (fun _ => ?_)
  refine lv_aload_n hx hb dJ0_isLatin1_aae02_6 rfl (lv_at hl 0 rfl) ?_
  refine va_getX (i := i) (v := fun _ => .int 0) hx hb (w_scod hE) hi hS hown (hts (.fieldLink RJ0 15 "java/lang/String" "coder" "B") (by decide +kernel)) (fun _ h => h) dJ0_isLatin1_aae02_7 ?_
  refine lv_if_ne (tgt := 17) hx hb dJ0_isLatin1_aae02_10 (by decide) (fun c1 => absurd rfl c1) (fun _ => ?_)
  refine lv_iconst (v := 1) hx hb dJ0_isLatin1_aae02_13 (by decide) ?_
  refine lv_goto (tgt := 18) hx hb dJ0_isLatin1_aae02_14 (by decide) ?_
  exact hret hP hS (show narrow .boolean (.int 1) = .int 1 from rfl) dJ0_isLatin1_aae02_18
set_option maxHeartbeats 4000000 in
set_option maxRecDepth 100000 in
theorem kJ0_length (l : Launch) (D : va_G) (cA : Nat → ClassId) (adK adV : Nat → Nat) (i : Nat) (hi : i < 13) : MIe l yJ0_length_8abf5 wsJ0_length_8abf5 { frames := 1, cells := 0, slots := 0, locals := 20 } D cA adK adV .int [.ref (adK i)] [] [] (sL i) := by
  refine MIe.of (cc := cJ0_length_8abf5) (maxL := 1) (by decide +kernel) rfl rfl rfl (Nat.le_of_ble_eq_true rfl) ?_
  intro p e s m args below meth c A ls Q hx hb hml hts hown hK hP hD hA hS hE hR hl hret
  have hl : lv_has ls 1 [(0, .ref (adK i))] := hl
  refine lv_aload_n hx hb dJ0_length_8abf5_0 rfl (lv_at hl 0 rfl) ?_
  refine va_getX (i := i) (v := fun i => .ref (adV i)) hx hb (w_sval hE) hi hS hown (hts (.fieldLink RJ0 9 "java/lang/String" "value" "[B") (by decide +kernel)) (fun _ h => h) dJ0_length_8abf5_1 ?_
  refine va_tlen (v := nI (lenS.getD i 0)) hx hb (w_sarr hE hi) hS rfl dJ0_length_8abf5_4 ?_
  refine lv_aload_n hx hb dJ0_length_8abf5_5 rfl (lv_at hl 0 rfl) ?_
  refine xv_ie (As := []) (rest := [.int (nI (lenS.getD i 0))]) (b := adK i) hE hR ⟨hx, hb, hml, hown, hts⟩ hl.1 (kJ0_coder l D cA adK adV i hi) (cwV 0 hts gJ0_length_8abf5_J0_coder_7d493 rfl rfl rfl (by decide +kernel) ⟨Nat.le_of_ble_eq_true rfl, Nat.le_of_ble_eq_true rfl⟩) rfl hK hP hD hS hA (w_str hE hS hi) [] rfl (by decide +kernel) rfl (Nat.le_of_ble_eq_true rfl) dJ0_length_8abf5_6 ⟨Nat.zero_le _, Nat.zero_le _⟩ (fun H locs hP hD hS _ => ?_)
  refine lv_ishr hx hb dJ0_length_8abf5_9 ?_
  rw [sc_shr0 (lenS_lt hi)]
  exact hret hP hS rfl dJ0_length_8abf5_10
set_option maxHeartbeats 4000000 in
set_option maxRecDepth 100000 in
theorem kJ3_checkIndex (l : Launch) (D : va_G) (cA : Nat → ClassId) (k : Int32) (n : Nat) (hn : n < 2 ^ 31) (hk : vp_in k n) (v : Value) (hv : v = .null ∨ ∃ t, v = .ref t) : MI l yJ3_checkIndex_8e157 wsJ3_checkIndex_8e157 { frames := 0, cells := 0, slots := 0, locals := 0 } D cA .int [.int k, .int (nI n), v] [] [] k := by
  have hc : v.category = 1 := by rcases hv with rfl | ⟨t, rfl⟩ <;> rfl
  have hlen : (lg_sl [.int k, .int (nI n), v]).length ≤ 3 := by rcases hv with rfl | ⟨t, rfl⟩ <;> exact Nat.le_of_ble_eq_true rfl
  refine MI.of (cc := cJ3_checkIndex_8e157) (maxL := 3) (by decide +kernel) rfl rfl rfl hlen ?_
  intro p e s m args below meth c A ls Q hx hb hml hts hown hK hP hD hA hS hl hret
  have hl : lv_has ls 3 [(0, .int k), (1, .int (nI n))] := lv_sub hl [0, 1] rfl
  have hk0 : ¬ k < 0 := fun z => hk (Or.inl z)
  have hkn : k < nI n := by
    obtain ⟨j, hj, rfl⟩ := vp_in_of hk hn
    exact nI_lt hj hn
  refine lv_iload_n hx hb dJ3_checkIndex_8e157_0 rfl (lv_at hl 0 rfl) ?_
  refine lv_if_lt (tgt := 9) hx hb dJ3_checkIndex_8e157_1 (by decide) (fun c1 => absurd c1 hk0) (fun _ => ?_)
  refine lv_iload_n hx hb dJ3_checkIndex_8e157_4 rfl (lv_at hl 0 rfl) ?_
  refine lv_iload_n hx hb dJ3_checkIndex_8e157_5 rfl (lv_at hl 1 rfl) ?_
  refine lv_icmp_lt (tgt := 16) hx hb dJ3_checkIndex_8e157_6 (by decide) (fun _ => ?_) (fun c1 => absurd hkn c1)
  refine lv_iload_n hx hb dJ3_checkIndex_8e157_16 rfl (lv_at hl 0 rfl) ?_
  exact hret hP hS rfl dJ3_checkIndex_8e157_17
set_option maxHeartbeats 4000000 in
set_option maxRecDepth 100000 in
theorem kJ0_checkIndex (l : Launch) (D : va_G) (cA : Nat → ClassId) (adK adV : Nat → Nat) (k : Int32) (n : Nat) (hn : n < 2 ^ 31) (hk : vp_in k n) : MVe l yJ0_checkIndex_df160 wsJ0_checkIndex_df160 { frames := 1, cells := 0, slots := 0, locals := 22 } D cA adK adV [.int k, .int (nI n)] [] [] := by
  refine MVe.of (cc := cJ0_checkIndex_df160) (maxL := 2) (by decide +kernel) rfl rfl rfl (Nat.le_of_ble_eq_true rfl) ?_
  intro p e s m args below meth c A ls Q hx hb hml hts hown hK hP hD hA hS hE hR hl hret
  have hl : lv_has ls 2 [(0, .int k), (1, .int (nI n))] := hl
  refine lv_iload_n hx hb dJ0_checkIndex_df160_0 rfl (lv_at hl 0 rfl) ?_
  refine lv_iload_n hx hb dJ0_checkIndex_df160_1 rfl (lv_at hl 1 rfl) ?_
  obtain ⟨v, hv, hZ⟩ : ∃ v : Value, (v = .null ∨ ∃ t, v = .ref t) ∧ va_Z "jdk/internal/util/Preconditions" "SIOOBE_FORMATTER" "Ljava/util/function/BiFunction;" v A s s.heap := by
    rcases hE.2.2 with h | ⟨t, h⟩
    · exact ⟨_, Or.inl rfl, h⟩
    · exact ⟨_, Or.inr ⟨t, rfl⟩, h⟩
  refine va_gets (v := v) hx hb hZ hS hown (hts (.fieldLink RJ0 1053 "jdk/internal/util/Preconditions" "SIOOBE_FORMATTER" "Ljava/util/function/BiFunction;") (by decide +kernel)) (fun _ h => h) dJ0_checkIndex_df160_2 ?_
  refine xs_i (As := [.int k, .int (nI n), v]) (rest := []) ⟨hx, hb, hml, hown, hts⟩ hl.1 (kJ3_checkIndex l D cA k n hn hk v hv) (va_cwS 3 hts gJ0_checkIndex_df160_J3_checkIndex_8e157 rfl rfl rfl (by decide +kernel) ⟨Nat.le_of_ble_eq_true rfl, Nat.le_of_ble_eq_true rfl⟩) rfl hK hP hD hS hA [] rfl (by decide +kernel) rfl (Nat.le_of_ble_eq_true rfl) dJ0_checkIndex_df160_5 ⟨Nat.zero_le _, Nat.zero_le _⟩ (fun H locs hP hD hS _ => ?_)
  refine lv_pop hx hb dJ0_checkIndex_df160_8 rfl ?_
  exact hret hP hS dJ0_checkIndex_df160_9
set_option maxHeartbeats 4000000 in
set_option maxRecDepth 100000 in
theorem kJ1_charAt (l : Launch) (D : va_G) (cA : Nat → ClassId) (adK adV : Nat → Nat) (i : Nat) (hi : i < 13) (k q : Int32) (h : sC i k = some q) : MIe l yJ1_charAt_3b067 wsJ1_charAt_3b067 { frames := 2, cells := 0, slots := 0, locals := 43 } D cA adK adV .char [.ref (adV i), .int k] [] [] q := by
  refine MIe.of (cc := cJ1_charAt_3b067) (maxL := 2) (by decide +kernel) rfl rfl rfl (Nat.le_of_ble_eq_true rfl) ?_
  intro p e s m args below meth c A ls Q hx hb hml hts hown hK hP hD hA hS hE hR hl hret
  have hl : lv_has ls 2 [(0, .ref (adV i)), (1, .int k)] := hl
  unfold sC at h
  obtain ⟨v, ev, nv, h⟩ := e_rd h
  obtain rfl := e_s h
  refine lv_iload_n hx hb dJ1_charAt_3b067_0 rfl (lv_at hl 1 rfl) ?_
  refine lv_aload_n hx hb dJ1_charAt_3b067_1 rfl (lv_at hl 0 rfl) ?_
  refine va_tlen (v := nI (lenS.getD i 0)) hx hb (w_sarr hE hi) hS rfl dJ1_charAt_3b067_2 ?_
  refine xs_ve (As := [.int k, .int (nI (lenS.getD i 0))]) (rest := []) hE hR ⟨hx, hb, hml, hown, hts⟩ hl.1 (kJ0_checkIndex l D cA adK adV k _ (lenS_lt hi) nv) (va_cwS 2 hts gJ1_charAt_3b067_J0_checkIndex_df160 rfl rfl rfl (by decide +kernel) ⟨Nat.le_of_ble_eq_true rfl, Nat.le_of_ble_eq_true rfl⟩) rfl hK hP hD hS hA [] rfl (by decide +kernel) rfl (Nat.le_of_ble_eq_true rfl) dJ1_charAt_3b067_3 ⟨Nat.zero_le _, Nat.zero_le _⟩ (fun H locs hP hD hS => ?_)
  refine lv_aload_n hx hb dJ1_charAt_3b067_6 rfl (lv_at hl 0 rfl) ?_
  refine lv_iload_n hx hb dJ1_charAt_3b067_7 rfl (lv_at hl 1 rfl) ?_
  refine va_tb (v := .int v) hx hb (w_sarr hE hi) hS nv (congrArg Value.int ev) dJ1_charAt_3b067_8 ?_
  refine lv_sipush (v := 255) hx hb dJ1_charAt_3b067_9 (by decide) ?_
  refine lv_iand hx hb dJ1_charAt_3b067_12 ?_
  refine lv_i2c (v := (Int32.toUInt32 (v &&& 255) % 65536).toInt32) hx hb dJ1_charAt_3b067_13 rfl ?_
  exact hret hP hS (pk_nc _) dJ1_charAt_3b067_14
set_option maxHeartbeats 4000000 in
set_option maxRecDepth 100000 in
theorem kJ0_charAt (l : Launch) (D : va_G) (cA : Nat → ClassId) (adK adV : Nat → Nat) (i : Nat) (hi : i < 13) (k q : Int32) (h : sC i k = some q) : MIe l yJ0_charAt_5068e wsJ0_charAt_5068e { frames := 3, cells := 0, slots := 0, locals := 64 } D cA adK adV .char [.ref (adK i), .int k] [] [] q := by
  refine MIe.of (cc := cJ0_charAt_5068e) (maxL := 2) (by decide +kernel) rfl rfl rfl (Nat.le_of_ble_eq_true rfl) ?_
  intro p e s m args below meth c A ls Q hx hb hml hts hown hK hP hD hA hS hE hR hl hret
  have hl : lv_has ls 2 [(0, .ref (adK i)), (1, .int k)] := hl
  refine lv_aload_n hx hb dJ0_charAt_5068e_0 rfl (lv_at hl 0 rfl) ?_
  refine xv_ie (As := []) (rest := []) (b := adK i) hE hR ⟨hx, hb, hml, hown, hts⟩ hl.1 (kJ0_isLatin1 l D cA adK adV i hi) (cwV 0 hts gJ0_charAt_5068e_J0_isLatin1_aae02 rfl rfl rfl (by decide +kernel) ⟨Nat.le_of_ble_eq_true rfl, Nat.le_of_ble_eq_true rfl⟩) rfl hK hP hD hS hA (w_str hE hS hi) [] rfl (by decide +kernel) rfl (Nat.le_of_ble_eq_true rfl) dJ0_charAt_5068e_1 ⟨Nat.zero_le _, Nat.zero_le _⟩ (fun H locs hP hD hS _ => ?_)
  refine lv_if_eq (tgt := 16) hx hb dJ0_charAt_5068e_4 (by decide) (fun c1 => absurd c1 (by decide)) (fun _ => ?_)
  refine lv_aload_n hx hb dJ0_charAt_5068e_7 rfl (lv_at hl 0 rfl) ?_
  refine va_getX (i := i) (v := fun i => .ref (adV i)) hx hb (w_sval hE) hi hS hown (hts (.fieldLink RJ0 9 "java/lang/String" "value" "[B") (by decide +kernel)) (fun _ h => h) dJ0_charAt_5068e_8 ?_
  refine lv_iload_n hx hb dJ0_charAt_5068e_11 rfl (lv_at hl 1 rfl) ?_
  refine xs_ie (As := [.ref (adV i), .int k]) (rest := []) hE hR ⟨hx, hb, hml, hown, hts⟩ hl.1 (kJ1_charAt l D cA adK adV i hi k q h) (va_cwS 2 hts gJ0_charAt_5068e_J1_charAt_3b067 rfl rfl rfl (by decide +kernel) ⟨Nat.le_of_ble_eq_true rfl, Nat.le_of_ble_eq_true rfl⟩) rfl hK hP hD hS hA [] rfl (by decide +kernel) rfl (Nat.le_of_ble_eq_true rfl) dJ0_charAt_5068e_12 ⟨Nat.zero_le _, Nat.zero_le _⟩ (fun H locs hP hD hS hn => ?_)
  exact hret hP hS hn dJ0_charAt_5068e_15
