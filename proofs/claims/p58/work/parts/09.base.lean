/-! the shapes of the state, what a model may do, and the calls: one row each -/
abbrev RowT : Type := (Nat → Int32) × (Nat → Int32) × Int32
abbrev TalT : Type := (Nat → Int32) × (Nat → Int32) × (Nat → Int32) × (Nat → Int32) × Int32 × Int32 × Int32 × Int32
abbrev TapT : Type := (Nat → Int32) × Int32 × Int32 × Int32 × Int32 × Int32 × Int32
abbrev RdrT : Type := Int32 × Int32 × Int32 × Int32 × Int32 × Int32 × Int32
abbrev PasT : Type := (Nat → RowT) × Int32 × Int32
abbrev TY (cA : Nat → ClassId) : List (ClassId × FieldType) := [(cA 0, .int), (cA 1, .char), (cA 2, .int), (cA 3, .object "ModeDesk$Row"), (cA 4, .byte), (cA 5, .array .int)]
def FU : Nat := 2000
def rd (f : Nat → Int32) (n : Nat) (i : Int32) : Option Int32 := if i < 0 ∨ n ≤ i.toNatClampNeg then none else some (f i.toNatClampNeg)
def wr (f : Nat → Int32) (n : Nat) (i x : Int32) : Option (Nat → Int32) := if i < 0 ∨ n ≤ i.toNatClampNeg then none else some (upd f i.toNatClampNeg x)
def rx (n : Nat) (i : Int32) : Option Nat := if i < 0 ∨ n ≤ i.toNatClampNeg then none else some i.toNatClampNeg
def idv (x y : Int32) : Option Int32 := if y = 0 then none else some (x / y)
def irm (x y : Int32) : Option Int32 := if y = 0 then none else some (x - x / y * y)
theorem e_b {α β : Type} {o : Option β} {k : β → Option α} {r : α} (h : o.bind k = some r) : ∃ v, o = some v ∧ k v = some r := by
  cases o with
  | none => simp at h
  | some v => exact ⟨v, rfl, h⟩
theorem e_rd {α : Type} {f : Nat → Int32} {n : Nat} {i : Int32} {k : Int32 → Option α} {r : α} (h : (rd f n i).bind k = some r) : ∃ v, f i.toNatClampNeg = v ∧ vp_in i n ∧ k v = some r := by
  unfold rd at h
  by_cases c : i < 0 ∨ n ≤ i.toNatClampNeg
  · rw [if_pos c] at h; simp at h
  · rw [if_neg c] at h; exact ⟨_, rfl, c, h⟩
theorem e_wr {α : Type} {f : Nat → Int32} {n : Nat} {i x : Int32} {k : (Nat → Int32) → Option α} {r : α} (h : (wr f n i x).bind k = some r) : ∃ v, upd f i.toNatClampNeg x = v ∧ vp_in i n ∧ k v = some r := by
  unfold wr at h
  by_cases c : i < 0 ∨ n ≤ i.toNatClampNeg
  · rw [if_pos c] at h; simp at h
  · rw [if_neg c] at h; exact ⟨_, rfl, c, h⟩
theorem e_rx {α : Type} {n : Nat} {i : Int32} {k : Nat → Option α} {r : α} (h : (rx n i).bind k = some r) : ∃ v, i.toNatClampNeg = v ∧ vp_in i n ∧ v < n ∧ k v = some r := by
  unfold rx at h
  by_cases c : i < 0 ∨ n ≤ i.toNatClampNeg
  · rw [if_pos c] at h; simp at h
  · rw [if_neg c] at h; exact ⟨_, rfl, c, by have := (not_or.mp c).2; omega, h⟩
theorem e_dv {α : Type} {x y : Int32} {k : Int32 → Option α} {r : α} (h : (idv x y).bind k = some r) : ∃ v, x / y = v ∧ ¬ y = 0 ∧ k v = some r := by
  unfold idv at h
  by_cases c : y = 0
  · rw [if_pos c] at h; simp at h
  · rw [if_neg c] at h; exact ⟨_, rfl, c, h⟩
theorem e_rm {α : Type} {x y : Int32} {k : Int32 → Option α} {r : α} (h : (irm x y).bind k = some r) : ∃ v, x - x / y * y = v ∧ ¬ y = 0 ∧ k v = some r := by
  unfold irm at h
  by_cases c : y = 0
  · rw [if_pos c] at h; simp at h
  · rw [if_neg c] at h; exact ⟨_, rfl, c, h⟩
theorem e_t {α : Type} {c : Prop} {a b x : α} {i : Decidable c} (hc : c) (h : @ite α c i a b = x) : a = x := by rw [if_pos hc] at h; exact h
theorem e_f {α : Type} {c : Prop} {a b x : α} {i : Decidable c} (hc : ¬ c) (h : @ite α c i a b = x) : b = x := by rw [if_neg hc] at h; exact h
theorem e_s {α : Type} {a b : α} (h : some a = some b) : b = a := (Option.some.inj h).symm
theorem e_n {α : Type} {b : α} {P : Prop} (h : (none : Option α) = some b) : P := by simp at h
/-! cells of a callee put back at their places -/
def w_sel : List Nat → va_W → Nat → Nat × va_E → Nat × va_E
  | [], _, _, q => q
  | i :: is, qs, k, q => match qs with
    | [] => q
    | x :: qs' => if k = i then x else w_sel is qs' k q
def w_putF (is : List Nat) (qs : va_W) : Nat → va_W → va_W
  | _, [] => []
  | k, q :: W => w_sel is qs k q :: w_putF is qs (k + 1) W
def w_put (W : va_W) (is : List Nat) (qs : va_W) : va_W := w_putF is qs 0 W
theorem w_putF_get (is : List Nat) (qs : va_W) : ∀ (W : va_W) (k j : Nat), (w_putF is qs k W)[j]? = (W[j]?).map (w_sel is qs (k + j))
  | [], k, j => by simp [w_putF]
  | q :: W, k, 0 => by simp [w_putF]
  | q :: W, k, j + 1 => by
    simp only [w_putF, List.getElem?_cons_succ]
    rw [w_putF_get is qs W (k + 1) j]
    congr 2
    omega
theorem w_put_get (is : List Nat) (qs W : va_W) (j : Nat) : (w_put W is qs)[j]? = (W[j]?).map (w_sel is qs j) := by
  unfold w_put
  rw [w_putF_get, Nat.zero_add]
theorem w_sel_or : ∀ (is : List Nat) (qs : va_W) (k : Nat) (q : Nat × va_E), is.length = qs.length → w_sel is qs k q ∈ qs ∨ (w_sel is qs k q = q ∧ k ∉ is)
  | [], qs, k, q, _ => Or.inr ⟨rfl, List.not_mem_nil⟩
  | i :: is, [], k, q, h => by simp at h
  | i :: is, x :: qs, k, q, h => by
    by_cases hk : k = i
    · left; simp [w_sel, hk]
    · rcases w_sel_or is qs k q (by simpa using h) with h1 | ⟨h1, h2⟩
      · left; simp only [w_sel, if_neg hk]; exact List.mem_cons_of_mem _ h1
      · right; simp only [w_sel, if_neg hk]; exact ⟨h1, fun z => by rcases List.mem_cons.mp z with z | z; exact hk z; exact h2 z⟩
theorem w_put_all {P : Nat × va_E → Prop} (is : List Nat) (qs W : va_W) (hl : is.length = qs.length) (hq : ∀ q ∈ qs, P q) (hW : ∀ (k : Nat) (q : Nat × va_E), W[k]? = some q → P q ∨ k ∈ is) (k : Nat) (q : Nat × va_E) (h : (w_put W is qs)[k]? = some q) : P q := by
  rw [w_put_get] at h
  cases hk : W[k]? with
  | none => rw [hk] at h; simp at h
  | some q0 =>
    rw [hk] at h
    simp only [Option.map_some, Option.some.injEq] at h
    subst h
    rcases w_sel_or is qs k q0 hl with h1 | ⟨h1, h2⟩
    · exact hq _ h1
    · rw [h1]
      rcases hW k q0 hk with h3 | h3
      · exact h3
      · exact absurd h3 h2
theorem w_sel_fst : ∀ (is : List Nat) (qs W : va_W) (k : Nat) (q : Nat × va_E), is.map (fun (i : Nat) => (W.map Prod.fst)[i]?) = (qs.map Prod.fst).map some → W[k]? = some q → (w_sel is qs k q).1 = q.1
  | [], qs, W, k, q, _, _ => rfl
  | i :: is, [], W, k, q, h, _ => rfl
  | i :: is, x :: qs, W, k, q, h, hk => by
    rw [List.map_cons, List.map_cons, List.map_cons, List.cons.injEq] at h
    obtain ⟨h1, h2⟩ := h
    by_cases hki : k = i
    · subst hki
      rw [List.getElem?_map, hk] at h1
      simp only [w_sel, if_true]
      exact (Option.some.inj h1).symm
    · simp only [w_sel, if_neg hki]
      exact w_sel_fst is qs W k q h2 hk
theorem w_put_fst (is : List Nat) (qs W : va_W) (h : is.map (fun (i : Nat) => (W.map Prod.fst)[i]?) = (qs.map Prod.fst).map some) : (w_put W is qs).map Prod.fst = W.map Prod.fst := by
  apply List.ext_getElem?
  intro k
  rw [List.getElem?_map, List.getElem?_map, w_put_get]
  cases hk : W[k]? with
  | none => rfl
  | some q => simp only [Option.map_some]; rw [w_sel_fst is qs W k q h hk]
theorem va_D_fst {A : Nat → Prop} {W W' : va_W} (e : W'.map Prod.fst = W.map Prod.fst) (h : va_D A W) : va_D A W' := by
  have key : ∀ (k : Nat) (q : Nat × va_E), W'[k]? = some q → ∃ q0, W[k]? = some q0 ∧ q0.1 = q.1 := by
    intro k q hk
    have h1 : (W'.map Prod.fst)[k]? = some q.1 := by rw [List.getElem?_map, hk]; rfl
    rw [e, List.getElem?_map] at h1
    cases hw : W[k]? with
    | none => rw [hw] at h1; cases h1
    | some q0 => rw [hw] at h1; exact ⟨q0, rfl, Option.some.inj h1⟩
  refine ⟨fun i j x y hi hj hxy => ?_, fun k q hk => ?_⟩
  · obtain ⟨x0, h1, h2⟩ := key i x hi
    obtain ⟨y0, h3, h4⟩ := key j y hj
    exact h.1 i j x0 y0 h1 h3 (h2.trans (hxy.trans h4.symm))
  · obtain ⟨q0, h1, h2⟩ := key k q hk
    rw [← h2]; exact h.2 k q0 h1
theorem w_at {is : List Nat} {W Wc : va_W} (hC : is.map (fun i => W[i]?) = Wc.map some) {k : Nat} {q : Nat × va_E} (h : Wc[k]? = some q) : ∃ i, is[k]? = some i ∧ W[i]? = some q := by
  have h1 : (is.map (fun i => W[i]?))[k]? = some (some q) := by rw [hC, List.getElem?_map, h]; rfl
  rw [List.getElem?_map] at h1
  cases hi : is[k]? with
  | none => rw [hi] at h1; cases h1
  | some i => rw [hi] at h1; exact ⟨i, rfl, Option.some.inj h1⟩
/-- the callee's world, out of the caller's -/
theorem w_cut {D : va_G} {cl : List vw_C} {is : List Nat} {W Wc : va_W} {H : Heap} (hC : is.map (fun i => W[i]?) = Wc.map some) (hP : va_P D cl W H) : va_P D cl Wc H := by
  intro k q h
  obtain ⟨i, -, hi⟩ := w_at hC h
  exact hP i q hi
theorem w_cutD {A : Nat → Prop} {is : List Nat} {W Wc : va_W} (hC : is.map (fun i => W[i]?) = Wc.map some) (hn : va_nd is = true) (hD : va_D A W) : va_D A Wc := hD.sub is hn hC
/-- behind a call -/
theorem w_back {D : va_G} {cl : List vw_C} {A0 : Nat → Prop} {is : List Nat} {W Wc Wc' : va_W} {H H1 : Heap} (hP : va_P D cl W H) (hD : va_D A0 W) (hC : is.map (fun i => W[i]?) = Wc.map some) (he : Wc'.map Prod.fst = Wc.map Prod.fst)
    (hk : ∀ q : Nat, q < H.size → ¬ va_A Wc H.size q → H1[q]? = H[q]?) (hP1 : va_P D cl Wc' H1) : va_P D cl (w_put W is Wc') H1 ∧ va_D A0 (w_put W is Wc') := by
  have hlen : is.length = Wc'.length := by
    have h1 := congrArg List.length hC
    have h2 := congrArg List.length he
    simp at h1 h2
    omega
  constructor
  · refine w_put_all (P := fun q => va_at D cl q H1) is Wc' W hlen (fun q hq => ?_) (fun k q hq => ?_)
    · obtain ⟨k, hk⟩ := List.getElem?_of_mem hq
      exact hP1 k q hk
    · by_cases hm : k ∈ is
      · exact Or.inr hm
      · refine Or.inl ?_
        have hl := (hP k q hq).lt
        refine (hP k q hq).kept (hk q.1 hl ?_)
        intro h
        rcases h with ⟨k2, e2, h2⟩ | h2
        · obtain ⟨i, h3, h4⟩ := w_at hC h2
          have hki := hD.1 k i q (q.1, e2) hq h4 rfl
          subst hki
          exact hm (List.mem_of_getElem? h3)
        · omega
  · refine va_D_fst (w_put_fst is Wc' W ?_) hD
    rw [he]
    have h1 := congrArg (List.map (Option.map Prod.fst)) hC
    rw [List.map_map, List.map_map] at h1
    have h2 : (Option.map Prod.fst ∘ fun (i : Nat) => W[i]?) = fun (i : Nat) => (W.map Prod.fst)[i]? := by funext i; simp [List.getElem?_map]
    have h3 : (Option.map Prod.fst ∘ (some : Nat × va_E → Option (Nat × va_E))) = some ∘ Prod.fst := by funext i; rfl
    rw [h2, h3] at h1
    rw [List.map_map]
    exact h1
/-! contracts: a method that gives an int (MI), nothing (MV), one of several cells (MR) -/
abbrev mW (D : va_G) (cA : Nat → ClassId) (W : va_W) (sz : Nat) : State → Prop := fun U => U.heap.size = sz ∧ va_P D vwCl W U.heap ∧ va_K D vwCl (TY cA) U ∧ va_D (fun _ => True) W
def MI (l : Launch) (y : MethodName) (ws : List Cond) (rm : Room) (D : va_G) (cA : Nat → ClassId) (ty : FieldType) (av : List Value) (W W' : va_W) (r : Int32) : Prop :=
  ∀ sz : Nat, Met l y ws rm (va_Pc av (mW D cA W sz)) (va_Qi (fun (x : Int32) (_ : Unit) => x = r ∧ narrow ty (.int x) = .int x) (fun _ t => va_P D vwCl W' t.heap) (va_A W sz)) 0 0 (va_A W sz)
def MV (l : Launch) (y : MethodName) (ws : List Cond) (rm : Room) (D : va_G) (cA : Nat → ClassId) (av : List Value) (W W' : va_W) : Prop :=
  ∀ sz : Nat, Met l y ws rm (va_Pc av (mW D cA W sz)) (va_Qv (fun (_ : Unit) => True) (fun _ t => va_P D vwCl W' t.heap) (va_A W sz)) 0 0 (va_A W sz)
def MR (l : Launch) (y : MethodName) (ws : List Cond) (rm : Room) (D : va_G) (cA : Nat → ClassId) (av : List Value) (W W' : va_W) (r : Nat) : Prop :=
  ∀ sz : Nat, Met l y ws rm (va_Pc av (mW D cA W sz)) (va_Qr (fun (_ : Unit) => True) (fun _ a t => a = r ∧ va_P D vwCl W' t.heap) (va_A W sz)) 0 0 (va_A W sz)
theorem Met.ofWF {l : Launch} {y : MethodName} {ws ws' : List Cond} {rm : Room} {Pc : Array Value → State → Prop} {Qc : Array Value → State → Outcome → State → Prop} {mc ms : Nat} {free : Addr → Prop} {cc : ByteArray} {maxL : Nat} {ret : Option FieldType}
    (hy : plainFor y = true) (hw : ws = Cond.code y cc maxL ret :: ws')
    (body : ∀ p e s m args below meth c s₁, BodyLoose p l y (headSpec ws rm) cc maxL ret e s m args below meth c s₁ → c.maxLocals = maxL → Pc args s →
      W p l e (headSpec ws rm).room s m args below meth c s.heap [] 0 0 (MQ below Qc args s mc ms free) (entryFrame m args maxL)) : Met l y ws rm Pc Qc mc ms free := by
  refine MetFree.of_bodySF (code := cc) (maxLocals := maxL) (ret := ret) hy ?_ ?_
  · intro args s m h hn
    obtain ⟨meth, c, h1, h2, h3, h4, h5, h6, -, -⟩ := Cond.code_spec hn (atoms_spec (ws := ws) h _ (by rw [hw]; exact List.mem_cons_self))
    exact ⟨meth, c, h1, h2, h3, h4, h5, h6⟩
  · intro p e s m args below meth c s₁ B hml hP _
    have hh0 : s₁.heap = s.heap := by rw [B.state]; rfl
    obtain ⟨t, a1, o, b1, b2, b3⟩ := body p e s m args below meth c s₁ B hml hP s₁ hh0 (Stand.of_body B)
    exact ⟨t, o, a1, b1, b2, ⟨b3.1, b3.2⟩⟩
theorem MI.of {l : Launch} {y : MethodName} {ws ws' : List Cond} {rm : Room} {D : va_G} {cA : Nat → ClassId} {ty : FieldType} {av : List Value} {W0 W' : va_W} {r : Int32} {cc : ByteArray} {maxL : Nat} (hy : plainFor y = true) (hw : ws = Cond.code y cc maxL (some ty) :: ws') (hrc : rm.cells = 0) (hrs : rm.slots = 0) (hav : (lg_sl av).length ≤ maxL)
    (body : ∀ {p : Program} {e : Env} {s : State} {m : MethodId} {args : Array Value} {below : List Frame} {meth : Method} {c : Code} {A : Nat → Prop} {ls : Array Slot} {Q : State → Prop}, p.tables.exec = Jvm.exec → c.code = cc → c.maxLocals = maxL → (∀ w ∈ ws, w.before args s = true) → s.vm.findClass y.cls = some m.cls → va_K D vwCl (TY cA) s → va_P D vwCl W0 s.heap → va_D A W0 → (∀ q : Nat, s.heap.size ≤ q → A q) → va_S A s.heap s.heap [] → lv_has ls maxL (lv_args 0 av) →
      (∀ {H : Heap} {locs : List Loc} {ls : Array Slot} {pc : Nat}, va_P D vwCl W' H → va_S A s.heap H locs → narrow ty (.int r) = .int r → decode cc pc = .ok (.ireturn, 1) → W p l e (headSpec ws rm).room s m args below meth c H locs 0 0 Q (F0 m pc ls [.int r])) →
      W p l e (headSpec ws rm).room s m args below meth c s.heap [] 0 0 Q (F0 m 0 ls [])) : MI l y ws rm D cA ty av W0 W' r := by
  intro sz
  refine Met.ofWF (cc := cc) (maxL := maxL) (ret := some ty) hy hw ?_
  intro p e s m args below meth c s₁ B hml hv
  obtain ⟨rfl, hsz, hP, hK, hD0⟩ := hv
  have hlocks := B.notSynchronized
  subst hsz
  rw [lg_entry_eq]
  refine body B.exec B.bytes hml (atoms_spec (ws := ws) B.pre) (findClass_of_methodNamed B.named) hK hP hD0.self (fun q h => Or.inr h) va_S.rf (lv_entry av hav) ?_
  intro H locs ls pc hP1 hS hn hd
  exact W.zret B.exec B.bytes B.returns hn (fun t ht hW => ⟨⟨r, (), rfl, ⟨rfl, hn⟩, by show va_P D vwCl W' t.heap; rw [ht]; exact hP1⟩, hS.F ht⟩) hS.2.2 hd
theorem MV.of {l : Launch} {y : MethodName} {ws ws' : List Cond} {rm : Room} {D : va_G} {cA : Nat → ClassId} {av : List Value} {W0 W' : va_W} {cc : ByteArray} {maxL : Nat} (hy : plainName y.cls = true) (hw : ws = Cond.code y cc maxL none :: ws') (hrc : rm.cells = 0) (hrs : rm.slots = 0) (hav : (lg_sl av).length ≤ maxL)
    (body : ∀ {p : Program} {e : Env} {s : State} {m : MethodId} {args : Array Value} {below : List Frame} {meth : Method} {c : Code} {A : Nat → Prop} {ls : Array Slot} {Q : State → Prop}, p.tables.exec = Jvm.exec → c.code = cc → c.maxLocals = maxL → (∀ w ∈ ws, w.before args s = true) → s.vm.findClass y.cls = some m.cls → va_K D vwCl (TY cA) s → va_P D vwCl W0 s.heap → va_D A W0 → (∀ q : Nat, s.heap.size ≤ q → A q) → va_S A s.heap s.heap [] → lv_has ls maxL (lv_args 0 av) →
      (∀ {H : Heap} {locs : List Loc} {ls : Array Slot} {pc : Nat}, va_P D vwCl W' H → va_S A s.heap H locs → decode cc pc = .ok (.return_, 1) → W p l e (headSpec ws rm).room s m args below meth c H locs 0 0 Q (F0 m pc ls [])) →
      W p l e (headSpec ws rm).room s m args below meth c s.heap [] 0 0 Q (F0 m 0 ls [])) : MV l y ws rm D cA av W0 W' := by
  intro sz
  refine Met.ofW (cc := cc) (maxL := maxL) (ret := none) hy hw ?_
  intro p e s m args below meth c s₁ B hml hv
  obtain ⟨rfl, hsz, hP, hK, hD0⟩ := hv
  have hlocks := B.notSynchronized
  subst hsz
  rw [lg_entry_eq]
  refine body B.exec B.bytes hml (atoms_spec (ws := ws) B.pre) (findClass_of_methodNamed B.named) hK hP hD0.self (fun q h => Or.inr h) va_S.rf (lv_entry av hav) ?_
  intro H locs ls pc hP1 hS hd
  exact W.vret B.exec B.bytes B.returns (fun t ht hW => ⟨⟨(), rfl, trivial, by show va_P D vwCl W' t.heap; rw [ht]; exact hP1⟩, hS.F ht⟩) hS.2.2 hd
theorem MR.of {l : Launch} {y : MethodName} {ws ws' : List Cond} {rm : Room} {D : va_G} {cA : Nat → ClassId} {ty : FieldType} {av : List Value} {W0 W' : va_W} {r : Nat} {cc : ByteArray} {maxL : Nat} (hy : plainName y.cls = true) (hw : ws = Cond.code y cc maxL (some ty) :: ws') (hty : (∃ n, ty = .object n) ∨ ∃ t, ty = .array t) (hrc : rm.cells = 0) (hrs : rm.slots = 0) (hav : (lg_sl av).length ≤ maxL)
    (body : ∀ {p : Program} {e : Env} {s : State} {m : MethodId} {args : Array Value} {below : List Frame} {meth : Method} {c : Code} {A : Nat → Prop} {ls : Array Slot} {Q : State → Prop}, p.tables.exec = Jvm.exec → c.code = cc → c.maxLocals = maxL → (∀ w ∈ ws, w.before args s = true) → s.vm.findClass y.cls = some m.cls → va_K D vwCl (TY cA) s → va_P D vwCl W0 s.heap → va_D A W0 → (∀ q : Nat, s.heap.size ≤ q → A q) → va_S A s.heap s.heap [] → lv_has ls maxL (lv_args 0 av) →
      (∀ {H : Heap} {locs : List Loc} {ls : Array Slot} {pc : Nat}, va_P D vwCl W' H → va_S A s.heap H locs → decode cc pc = .ok (.areturn, 1) → W p l e (headSpec ws rm).room s m args below meth c H locs 0 0 Q (F0 m pc ls [.ref r])) →
      W p l e (headSpec ws rm).room s m args below meth c s.heap [] 0 0 Q (F0 m 0 ls [])) : MR l y ws rm D cA av W0 W' r := by
  intro sz
  refine Met.ofW (cc := cc) (maxL := maxL) (ret := some ty) hy hw ?_
  intro p e s m args below meth c s₁ B hml hv
  obtain ⟨rfl, hsz, hP, hK, hD0⟩ := hv
  have hlocks := B.notSynchronized
  subst hsz
  rw [lg_entry_eq]
  refine body B.exec B.bytes hml (atoms_spec (ws := ws) B.pre) (findClass_of_methodNamed B.named) hK hP hD0.self (fun q h => Or.inr h) va_S.rf (lv_entry av hav) ?_
  intro H locs ls pc hP1 hS hd
  exact W.aret (rt := ty) B.exec B.bytes B.returns hty (Or.inr ⟨r, rfl⟩) (fun t ht hW => ⟨⟨(), r, rfl, trivial, rfl, by rw [ht]; exact hP1⟩, hS.F ht⟩) hS.2.2 hd
theorem w_blind {D : va_G} {cA : Nat → ClassId} {W : va_W} {av : List Value} {sz : Nat} : FrameBlind (va_Pc av (mW D cA W sz)) := fun a U g mk q => by
  obtain ⟨q0, q1, qP, qK, qD⟩ := q
  exact ⟨q0, q1, qP, va_K.moved (u := U) (U := U.calling g mk a) (Vm.Alike.refl U.vm) qK, qD⟩
section
variable {p : Program} {l : Launch} {e : Env} {R : Room} {s : State} {m : MethodId} {args : Array Value} {below : List Frame} {meth : Method} {c : Code} {H : Heap} {locs : List Loc} {cells slots : Nat} {Q : State → Prop}
variable {cc : ByteArray} {pc : Nat} {ls : Array Slot} {rest : List Value} {D : va_G} {cA : Nat → ClassId} {A : Nat → Prop} {a : Nat} {ws : va_W} {H0 : Heap}
theorem xa_iald (hx : p.tables.exec = Jvm.exec) (hb : c.code = cc) (hK : va_K D vwCl (TY cA) s) (hP : va_P D vwCl ws H) (q0 : Nat) {n : Nat} {f : Nat → Int32} (ha : ws[q0]? = some (a, .inl (cA 0, n, .inl f))) {i v : Int32} (hin : vp_in i n) (hv : f i.toNatClampNeg = v) (hdg : decode cc pc = .ok (.iaload, 1))
    (kk : W p l e R s m args below meth c H locs cells slots Q (F0 m (pc + 1) ls (.int v :: rest))) : W p l e R s m args below meth c H locs cells slots Q (F0 m pc ls (.int i :: .ref a :: rest)) := by
  subst hv; exact va_iald hx hb hK hP q0 0 ha rfl hin hdg kk
theorem xa_cald (hx : p.tables.exec = Jvm.exec) (hb : c.code = cc) (hK : va_K D vwCl (TY cA) s) (hP : va_P D vwCl ws H) (q0 : Nat) {n : Nat} {f : Nat → Int32} (ha : ws[q0]? = some (a, .inl (cA 1, n, .inl f))) {i v : Int32} (hin : vp_in i n) (hv : f i.toNatClampNeg = v) (hdg : decode cc pc = .ok (.caload, 1))
    (kk : W p l e R s m args below meth c H locs cells slots Q (F0 m (pc + 1) ls (.int v :: rest))) : W p l e R s m args below meth c H locs cells slots Q (F0 m pc ls (.int i :: .ref a :: rest)) := by
  subst hv; exact va_cald hx hb hK hP q0 1 ha rfl hin hdg kk
theorem xa_aald (hx : p.tables.exec = Jvm.exec) (hb : c.code = cc) (hK : va_K D vwCl (TY cA) s) (hP : va_P D vwCl ws H) (q0 : Nat) {n : Nat} {g : Nat → Nat} (ha : ws[q0]? = some (a, .inl (cA 3, n, .inr (.inr (.inr (.inr (fun k => some (g k)))))))) {i : Int32} {v : Nat} (hin : vp_in i n) (hv : i.toNatClampNeg = v) (hdg : decode cc pc = .ok (.aaload, 1))
    (kk : W p l e R s m args below meth c H locs cells slots Q (F0 m (pc + 1) ls (.ref (g v) :: rest))) : W p l e R s m args below meth c H locs cells slots Q (F0 m pc ls (.int i :: .ref a :: rest)) := by
  subst hv; exact va_aldq (C := "ModeDesk$Row") hx hb hK hP q0 3 ha rfl hin hdg kk
theorem xa_iast (hx : p.tables.exec = Jvm.exec) (hb : c.code = cc) (hK : va_K D vwCl (TY cA) s) (hP : va_P D vwCl ws H) (hD : va_D A ws) (hS : va_S A H0 H locs) (q0 : Nat) {n : Nat} {f g : Nat → Int32} (ha : ws[q0]? = some (a, .inl (cA 0, n, .inl f))) {i x : Int32} (hin : vp_in i n) (hv : upd f i.toNatClampNeg x = g) (hdg : decode cc pc = .ok (.iastore, 1))
    (kk : ∀ (H1 : Heap) (locs1 : List Loc), va_P D vwCl (ws.set q0 (a, .inl (cA 0, n, .inl g))) H1 → va_D A (ws.set q0 (a, .inl (cA 0, n, .inl g))) → va_S A H0 H1 locs1 → W p l e R s m args below meth c H1 locs1 cells slots Q (F0 m (pc + 1) ls rest)) : W p l e R s m args below meth c H locs cells slots Q (F0 m pc ls (.int x :: .int i :: .ref a :: rest)) := by
  subst hv; exact va_iast hx hb hK hP hD hS q0 0 ha rfl hin hdg kk
theorem xa_cast (hx : p.tables.exec = Jvm.exec) (hb : c.code = cc) (hK : va_K D vwCl (TY cA) s) (hP : va_P D vwCl ws H) (hD : va_D A ws) (hS : va_S A H0 H locs) (q0 : Nat) {n : Nat} {f g : Nat → Int32} (ha : ws[q0]? = some (a, .inl (cA 1, n, .inl f))) {i x : Int32} (hin : vp_in i n) (hv : upd f i.toNatClampNeg (vp_nar .char x) = g) (hdg : decode cc pc = .ok (.castore, 1))
    (kk : ∀ (H1 : Heap) (locs1 : List Loc), va_P D vwCl (ws.set q0 (a, .inl (cA 1, n, .inl g))) H1 → va_D A (ws.set q0 (a, .inl (cA 1, n, .inl g))) → va_S A H0 H1 locs1 → W p l e R s m args below meth c H1 locs1 cells slots Q (F0 m (pc + 1) ls rest)) : W p l e R s m args below meth c H locs cells slots Q (F0 m pc ls (.int x :: .int i :: .ref a :: rest)) := by
  subst hv; exact va_cast hx hb hK hP hD hS q0 1 ha rfl hin hdg kk
theorem xa_idiv (hx : p.tables.exec = Jvm.exec) (hb : c.code = cc) {x y v : Int32} (hdg : decode cc pc = .ok (.idiv, 1)) (hne : ¬ y = 0) (hv : x / y = v)
    (k : W p l e R s m args below meth c H locs cells slots Q (F0 m (pc + 1) ls (.int v :: rest))) : W p l e R s m args below meth c H locs cells slots Q (F0 m pc ls (.int y :: .int x :: rest)) := by
  subst hv; exact lv_idiv hx hb hdg hne k
theorem xa_irem (hx : p.tables.exec = Jvm.exec) (hb : c.code = cc) {x y v : Int32} (hdg : decode cc pc = .ok (.irem, 1)) (hne : ¬ y = 0) (hv : x - x / y * y = v)
    (k : W p l e R s m args below meth c H locs cells slots Q (F0 m (pc + 1) ls (.int v :: rest))) : W p l e R s m args below meth c H locs cells slots Q (F0 m pc ls (.int y :: .int x :: rest)) := by
  subst hv; exact lv_irem hx hb hdg hne k
variable {y : MethodName} {bytes : ByteArray} {maxL nL n index ci : Nat} {ret : Option FieldType} {wd : List Cond} {rm : Room} {Ts : List Cond} {own C : String} {b : Nat} {As : List Value} {Wd Wc Wc' : va_W} {r : Int32} {ty : FieldType} {qc : vw_C} {fs : List Value} {is : List Nat}
/-- a call of an object's method that gives an int -/
theorem xv_i (S : CallFix p m c cc nL s args Ts own) (hl : ls.size = nL) (hM : MI l y wd rm D cA ty (.ref b :: As) Wc Wc' r) (cw : CallW R s args own C index y bytes maxL ret wd rm 0 0 n) (hn : As.length = n)
    (hK : va_K D vwCl (TY cA) s) (hP : va_P D vwCl Wd H) (hD : va_D A Wd) (hS : va_S A H0 H locs) (hA : ∀ q : Nat, H0.size ≤ q → A q)
    (q0 : Nat) (hq : vwCl[ci]? = some qc) (hqC : qc.1 = C) (he : Wd[q0]? = some (b, .inr (ci, fs))) (is : List Nat) (hC : is.map (fun i => Wd[i]?) = Wc.map some) (hnd : va_nd is = true) (hfst : Wc'.map Prod.fst = Wc.map Prod.fst)
    (hroom : (rest.map fun v => v.category).sum ≤ 8) (hdg : decode cc pc = .ok (.invokevirtual index, 3)) (hf : cells + 0 ≤ R.cells ∧ slots + 0 ≤ R.slots)
    (kk : ∀ (H1 : Heap) (locs1 : List Loc), va_P D vwCl (w_put Wd is Wc') H1 → va_D A (w_put Wd is Wc') → va_S A H0 H1 locs1 → narrow ty (.int r) = .int r → W p l e R s m args below meth c H1 locs1 cells slots Q (F0 m (pc + 3) ls (.int r :: rest))) :
    W p l e R s m args below meth c H locs cells slots Q (F0 m pc ls (As.reverse ++ .ref b :: rest)) := by
  subst hqC
  have hPc := w_cut hC hP
  have hDc := w_cutD hC hnd hD
  have hFc := va_free (wc := Wc) hD hS hA is hC
  refine va_calli (va_runV (As := As) (rest := rest) S (hM H.size) cw ⟨w_blind, va_recv hK hP hq he, fun U hU hW => ⟨rfl, by rw [hU], by rw [hU]; exact hPc, va_K.moved hW.alike hK, hDc.weaken (fun _ _ _ _ => trivial)⟩⟩ rfl hn hl rfl (lv_room hroom) hdg hf) hS (fun q _ h => hFc q h) hFc (fun r2 u t H1 locs1 ht hvm hw hB hz1 hk1 hS1 => ?_)
  obtain ⟨rfl, hnr⟩ := hw
  rw [ht] at hB
  obtain ⟨hP2, hD2⟩ := w_back hP hD hC hfst hk1 hB
  exact kk H1 locs1 hP2 hD2 hS1 hnr
/-- .. that gives nothing -/
theorem xv_v (S : CallFix p m c cc nL s args Ts own) (hl : ls.size = nL) (hM : MV l y wd rm D cA (.ref b :: As) Wc Wc') (cw : CallW R s args own C index y bytes maxL ret wd rm 0 0 n) (hn : As.length = n)
    (hK : va_K D vwCl (TY cA) s) (hP : va_P D vwCl Wd H) (hD : va_D A Wd) (hS : va_S A H0 H locs) (hA : ∀ q : Nat, H0.size ≤ q → A q)
    (q0 : Nat) (hq : vwCl[ci]? = some qc) (hqC : qc.1 = C) (he : Wd[q0]? = some (b, .inr (ci, fs))) (is : List Nat) (hC : is.map (fun i => Wd[i]?) = Wc.map some) (hnd : va_nd is = true) (hfst : Wc'.map Prod.fst = Wc.map Prod.fst)
    (hroom : (rest.map fun v => v.category).sum ≤ 8) (hdg : decode cc pc = .ok (.invokevirtual index, 3)) (hf : cells + 0 ≤ R.cells ∧ slots + 0 ≤ R.slots)
    (kk : ∀ (H1 : Heap) (locs1 : List Loc), va_P D vwCl (w_put Wd is Wc') H1 → va_D A (w_put Wd is Wc') → va_S A H0 H1 locs1 → W p l e R s m args below meth c H1 locs1 cells slots Q (F0 m (pc + 3) ls rest)) :
    W p l e R s m args below meth c H locs cells slots Q (F0 m pc ls (As.reverse ++ .ref b :: rest)) := by
  subst hqC
  have hPc := w_cut hC hP
  have hDc := w_cutD hC hnd hD
  have hFc := va_free (wc := Wc) hD hS hA is hC
  refine va_callv (va_runV (As := As) (rest := rest) S (hM H.size) cw ⟨w_blind, va_recv hK hP hq he, fun U hU hW => ⟨rfl, by rw [hU], by rw [hU]; exact hPc, va_K.moved hW.alike hK, hDc.weaken (fun _ _ _ _ => trivial)⟩⟩ rfl hn hl rfl (lv_room hroom) hdg hf) hS (fun q _ h => hFc q h) hFc (fun u t H1 locs1 ht hvm hw hB hz1 hk1 hS1 => ?_)
  rw [ht] at hB
  obtain ⟨hP2, hD2⟩ := w_back hP hD hC hfst hk1 hB
  exact kk H1 locs1 hP2 hD2 hS1
/-- .. that gives a cell -/
theorem xv_r {r : Nat} (S : CallFix p m c cc nL s args Ts own) (hl : ls.size = nL) (hM : MR l y wd rm D cA (.ref b :: As) Wc Wc' r) (cw : CallW R s args own C index y bytes maxL ret wd rm 0 0 n) (hn : As.length = n)
    (hK : va_K D vwCl (TY cA) s) (hP : va_P D vwCl Wd H) (hD : va_D A Wd) (hS : va_S A H0 H locs) (hA : ∀ q : Nat, H0.size ≤ q → A q)
    (q0 : Nat) (hq : vwCl[ci]? = some qc) (hqC : qc.1 = C) (he : Wd[q0]? = some (b, .inr (ci, fs))) (is : List Nat) (hC : is.map (fun i => Wd[i]?) = Wc.map some) (hnd : va_nd is = true) (hfst : Wc'.map Prod.fst = Wc.map Prod.fst)
    (hroom : (rest.map fun v => v.category).sum ≤ 8) (hdg : decode cc pc = .ok (.invokevirtual index, 3)) (hf : cells + 0 ≤ R.cells ∧ slots + 0 ≤ R.slots)
    (kk : ∀ (H1 : Heap) (locs1 : List Loc), va_P D vwCl (w_put Wd is Wc') H1 → va_D A (w_put Wd is Wc') → va_S A H0 H1 locs1 → W p l e R s m args below meth c H1 locs1 cells slots Q (F0 m (pc + 3) ls (.ref r :: rest))) :
    W p l e R s m args below meth c H locs cells slots Q (F0 m pc ls (As.reverse ++ .ref b :: rest)) := by
  subst hqC
  have hPc := w_cut hC hP
  have hDc := w_cutD hC hnd hD
  have hFc := va_free (wc := Wc) hD hS hA is hC
  refine va_callr (va_runV (As := As) (rest := rest) S (hM H.size) cw ⟨w_blind, va_recv hK hP hq he, fun U hU hW => ⟨rfl, by rw [hU], by rw [hU]; exact hPc, va_K.moved hW.alike hK, hDc.weaken (fun _ _ _ _ => trivial)⟩⟩ rfl hn hl rfl (lv_room hroom) hdg hf) hS (fun q _ h => hFc q h) hFc (fun u ra t H1 locs1 ht hvm hw hB hz1 hk1 hS1 => ?_)
  obtain ⟨rfl, hB⟩ := hB
  rw [ht] at hB
  obtain ⟨hP2, hD2⟩ := w_back hP hD hC hfst hk1 hB
  exact kk H1 locs1 hP2 hD2 hS1
/-- a static call that gives an int -/
theorem xs_i (S : CallFix p m c cc nL s args Ts own) (hl : ls.size = nL) (hM : MI l y wd rm D cA ty As Wc Wc' r) (cw : CallB R s args own index y bytes maxL ret wd rm 0 0 n ∧ (Cond.static y).before args s = true) (hn : As.length = n)
    (hK : va_K D vwCl (TY cA) s) (hP : va_P D vwCl Wd H) (hD : va_D A Wd) (hS : va_S A H0 H locs) (hA : ∀ q : Nat, H0.size ≤ q → A q)
    (is : List Nat) (hC : is.map (fun i => Wd[i]?) = Wc.map some) (hnd : va_nd is = true) (hfst : Wc'.map Prod.fst = Wc.map Prod.fst)
    (hroom : (rest.map fun v => v.category).sum ≤ 8) (hdg : decode cc pc = .ok (.invokestatic index, 3)) (hf : cells + 0 ≤ R.cells ∧ slots + 0 ≤ R.slots)
    (kk : ∀ (H1 : Heap) (locs1 : List Loc), va_P D vwCl (w_put Wd is Wc') H1 → va_D A (w_put Wd is Wc') → va_S A H0 H1 locs1 → narrow ty (.int r) = .int r → W p l e R s m args below meth c H1 locs1 cells slots Q (F0 m (pc + 3) ls (.int r :: rest))) :
    W p l e R s m args below meth c H locs cells slots Q (F0 m pc ls (As.reverse ++ rest)) := by
  have hPc := w_cut hC hP
  have hDc := w_cutD hC hnd hD
  have hFc := va_free (wc := Wc) hD hS hA is hC
  refine va_calli (va_runS (As := As) (rest := rest) S (hM H.size) cw ⟨w_blind, fun U hU hW => ⟨rfl, by rw [hU], by rw [hU]; exact hPc, va_K.moved hW.alike hK, hDc.weaken (fun _ _ _ _ => trivial)⟩⟩ rfl hn hl rfl (lv_room hroom) hdg hf) hS (fun q _ h => hFc q h) hFc (fun r2 u t H1 locs1 ht hvm hw hB hz1 hk1 hS1 => ?_)
  obtain ⟨rfl, hnr⟩ := hw
  rw [ht] at hB
  obtain ⟨hP2, hD2⟩ := w_back hP hD hC hfst hk1 hB
  exact kk H1 locs1 hP2 hD2 hS1 hnr
/-- a call of an object's method that gives an int -/
theorem xv_i0 (S : CallFix p m c cc nL s args Ts own) (hl : ls.size = nL) (hM : MI l y wd rm D cA ty (.ref b :: As) Wc Wc' r) (cw : CallW R s args own C index y bytes maxL ret wd rm 0 0 n) (hn : As.length = n)
    (hK : va_K D vwCl (TY cA) s) (hP : va_P D vwCl Wc H) (hD : va_D A Wc) (hS : va_S A H0 H locs) (hA : ∀ q : Nat, H0.size ≤ q → A q)
    (q0 : Nat) (hq : vwCl[ci]? = some qc) (hqC : qc.1 = C) (he : Wc[q0]? = some (b, .inr (ci, fs))) (hfst : Wc'.map Prod.fst = Wc.map Prod.fst)
    (hroom : (rest.map fun v => v.category).sum ≤ 8) (hdg : decode cc pc = .ok (.invokevirtual index, 3)) (hf : cells + 0 ≤ R.cells ∧ slots + 0 ≤ R.slots)
    (kk : ∀ (H1 : Heap) (locs1 : List Loc), va_P D vwCl Wc' H1 → va_D A Wc' → va_S A H0 H1 locs1 → narrow ty (.int r) = .int r → W p l e R s m args below meth c H1 locs1 cells slots Q (F0 m (pc + 3) ls (.int r :: rest))) :
    W p l e R s m args below meth c H locs cells slots Q (F0 m pc ls (As.reverse ++ .ref b :: rest)) := by
  subst hqC
  have hPc := hP
  have hDc := hD
  have hFc : ∀ q, va_A Wc H.size q → A q := fun q h => by
    rcases h with ⟨k, e2, h⟩ | h
    · exact hD.2 k _ h
    · exact hA q (Nat.le_trans hS.1 h)
  refine va_calli (va_runV (As := As) (rest := rest) S (hM H.size) cw ⟨w_blind, va_recv hK hP hq he, fun U hU hW => ⟨rfl, by rw [hU], by rw [hU]; exact hPc, va_K.moved hW.alike hK, hDc.weaken (fun _ _ _ _ => trivial)⟩⟩ rfl hn hl rfl (lv_room hroom) hdg hf) hS (fun q _ h => hFc q h) hFc (fun r2 u t H1 locs1 ht hvm hw hB hz1 hk1 hS1 => ?_)
  obtain ⟨rfl, hnr⟩ := hw
  rw [ht] at hB
  have hP2 := hB
  have hD2 := va_D_fst hfst hD
  exact kk H1 locs1 hP2 hD2 hS1 hnr
/-- .. that gives nothing -/
theorem xv_v0 (S : CallFix p m c cc nL s args Ts own) (hl : ls.size = nL) (hM : MV l y wd rm D cA (.ref b :: As) Wc Wc') (cw : CallW R s args own C index y bytes maxL ret wd rm 0 0 n) (hn : As.length = n)
    (hK : va_K D vwCl (TY cA) s) (hP : va_P D vwCl Wc H) (hD : va_D A Wc) (hS : va_S A H0 H locs) (hA : ∀ q : Nat, H0.size ≤ q → A q)
    (q0 : Nat) (hq : vwCl[ci]? = some qc) (hqC : qc.1 = C) (he : Wc[q0]? = some (b, .inr (ci, fs))) (hfst : Wc'.map Prod.fst = Wc.map Prod.fst)
    (hroom : (rest.map fun v => v.category).sum ≤ 8) (hdg : decode cc pc = .ok (.invokevirtual index, 3)) (hf : cells + 0 ≤ R.cells ∧ slots + 0 ≤ R.slots)
    (kk : ∀ (H1 : Heap) (locs1 : List Loc), va_P D vwCl Wc' H1 → va_D A Wc' → va_S A H0 H1 locs1 → W p l e R s m args below meth c H1 locs1 cells slots Q (F0 m (pc + 3) ls rest)) :
    W p l e R s m args below meth c H locs cells slots Q (F0 m pc ls (As.reverse ++ .ref b :: rest)) := by
  subst hqC
  have hPc := hP
  have hDc := hD
  have hFc : ∀ q, va_A Wc H.size q → A q := fun q h => by
    rcases h with ⟨k, e2, h⟩ | h
    · exact hD.2 k _ h
    · exact hA q (Nat.le_trans hS.1 h)
  refine va_callv (va_runV (As := As) (rest := rest) S (hM H.size) cw ⟨w_blind, va_recv hK hP hq he, fun U hU hW => ⟨rfl, by rw [hU], by rw [hU]; exact hPc, va_K.moved hW.alike hK, hDc.weaken (fun _ _ _ _ => trivial)⟩⟩ rfl hn hl rfl (lv_room hroom) hdg hf) hS (fun q _ h => hFc q h) hFc (fun u t H1 locs1 ht hvm hw hB hz1 hk1 hS1 => ?_)
  rw [ht] at hB
  have hP2 := hB
  have hD2 := va_D_fst hfst hD
  exact kk H1 locs1 hP2 hD2 hS1
/-- .. that gives a cell -/
theorem xv_r0 {r : Nat} (S : CallFix p m c cc nL s args Ts own) (hl : ls.size = nL) (hM : MR l y wd rm D cA (.ref b :: As) Wc Wc' r) (cw : CallW R s args own C index y bytes maxL ret wd rm 0 0 n) (hn : As.length = n)
    (hK : va_K D vwCl (TY cA) s) (hP : va_P D vwCl Wc H) (hD : va_D A Wc) (hS : va_S A H0 H locs) (hA : ∀ q : Nat, H0.size ≤ q → A q)
    (q0 : Nat) (hq : vwCl[ci]? = some qc) (hqC : qc.1 = C) (he : Wc[q0]? = some (b, .inr (ci, fs))) (hfst : Wc'.map Prod.fst = Wc.map Prod.fst)
    (hroom : (rest.map fun v => v.category).sum ≤ 8) (hdg : decode cc pc = .ok (.invokevirtual index, 3)) (hf : cells + 0 ≤ R.cells ∧ slots + 0 ≤ R.slots)
    (kk : ∀ (H1 : Heap) (locs1 : List Loc), va_P D vwCl Wc' H1 → va_D A Wc' → va_S A H0 H1 locs1 → W p l e R s m args below meth c H1 locs1 cells slots Q (F0 m (pc + 3) ls (.ref r :: rest))) :
    W p l e R s m args below meth c H locs cells slots Q (F0 m pc ls (As.reverse ++ .ref b :: rest)) := by
  subst hqC
  have hPc := hP
  have hDc := hD
  have hFc : ∀ q, va_A Wc H.size q → A q := fun q h => by
    rcases h with ⟨k, e2, h⟩ | h
    · exact hD.2 k _ h
    · exact hA q (Nat.le_trans hS.1 h)
  refine va_callr (va_runV (As := As) (rest := rest) S (hM H.size) cw ⟨w_blind, va_recv hK hP hq he, fun U hU hW => ⟨rfl, by rw [hU], by rw [hU]; exact hPc, va_K.moved hW.alike hK, hDc.weaken (fun _ _ _ _ => trivial)⟩⟩ rfl hn hl rfl (lv_room hroom) hdg hf) hS (fun q _ h => hFc q h) hFc (fun u ra t H1 locs1 ht hvm hw hB hz1 hk1 hS1 => ?_)
  obtain ⟨rfl, hB⟩ := hB
  rw [ht] at hB
  have hP2 := hB
  have hD2 := va_D_fst hfst hD
  exact kk H1 locs1 hP2 hD2 hS1
/-- a static call that gives an int -/
theorem xs_i0 (S : CallFix p m c cc nL s args Ts own) (hl : ls.size = nL) (hM : MI l y wd rm D cA ty As Wc Wc' r) (cw : CallB R s args own index y bytes maxL ret wd rm 0 0 n ∧ (Cond.static y).before args s = true) (hn : As.length = n)
    (hK : va_K D vwCl (TY cA) s) (hP : va_P D vwCl Wc H) (hD : va_D A Wc) (hS : va_S A H0 H locs) (hA : ∀ q : Nat, H0.size ≤ q → A q)
    (hfst : Wc'.map Prod.fst = Wc.map Prod.fst)
    (hroom : (rest.map fun v => v.category).sum ≤ 8) (hdg : decode cc pc = .ok (.invokestatic index, 3)) (hf : cells + 0 ≤ R.cells ∧ slots + 0 ≤ R.slots)
    (kk : ∀ (H1 : Heap) (locs1 : List Loc), va_P D vwCl Wc' H1 → va_D A Wc' → va_S A H0 H1 locs1 → narrow ty (.int r) = .int r → W p l e R s m args below meth c H1 locs1 cells slots Q (F0 m (pc + 3) ls (.int r :: rest))) :
    W p l e R s m args below meth c H locs cells slots Q (F0 m pc ls (As.reverse ++ rest)) := by
  have hPc := hP
  have hDc := hD
  have hFc : ∀ q, va_A Wc H.size q → A q := fun q h => by
    rcases h with ⟨k, e2, h⟩ | h
    · exact hD.2 k _ h
    · exact hA q (Nat.le_trans hS.1 h)
  refine va_calli (va_runS (As := As) (rest := rest) S (hM H.size) cw ⟨w_blind, fun U hU hW => ⟨rfl, by rw [hU], by rw [hU]; exact hPc, va_K.moved hW.alike hK, hDc.weaken (fun _ _ _ _ => trivial)⟩⟩ rfl hn hl rfl (lv_room hroom) hdg hf) hS (fun q _ h => hFc q h) hFc (fun r2 u t H1 locs1 ht hvm hw hB hz1 hk1 hS1 => ?_)
  obtain ⟨rfl, hnr⟩ := hw
  rw [ht] at hB
  have hP2 := hB
  have hD2 := va_D_fst hfst hD
  exact kk H1 locs1 hP2 hD2 hS1 hnr
end
/-- of a narrow switch: what is none of its cases is outside -/
theorem sw_out (n : Nat) {x : Int32} (h : ∀ k, k ≤ n → x ≠ nI k) (hn : n < 2 ^ 31) : x.toInt < ((0 : Nat) : Int) ∨ ((n : Nat) : Int) < x.toInt := by
  by_cases h0 : x < 0
  · exact Or.inl (by have := Int32.lt_iff_toInt_lt.mp h0; simpa using this)
  · obtain ⟨j, hj, rfl⟩ := nI_of h0
    rw [nI_toInt hj]
    refine Or.inr ?_
    by_cases hjn : j ≤ n
    · exact absurd rfl (h j hjn)
    · omega
theorem k12 {j : Nat} (h : j < 12) : j = 0 ∨ j = 1 ∨ j = 2 ∨ j = 3 ∨ j = 4 ∨ j = 5 ∨ j = 6 ∨ j = 7 ∨ j = 8 ∨ j = 9 ∨ j = 10 ∨ j = 11 := by omega
