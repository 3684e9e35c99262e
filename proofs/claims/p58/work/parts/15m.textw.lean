/-! texts in the world, as a callee reads them; what a builder holds -/
theorem ES_of {D : va_G} {cA : Nat → ClassId} {A : Nat → Prop} {s : State} {args : Array Value} {H : Heap} {locs : List Loc} {Ts : List Cond} {X W' : va_W} {i j a v n : Nat} {x y : Value} {g : Nat → Int32} {bs : List Int32} (hts : ∀ w ∈ Ts, w.before args s = true) (hin : ∀ w ∈ wsJ00, w ∈ Ts) (hC : EC A s s.heap) (hZ : va_Zq "jdk/internal/util/Preconditions" "SIOOBE_FORMATTER" "Ljava/util/function/BiFunction;" A s s.heap)
    (hK : va_K D vwCl (TY cA) s) (hP : va_P D vwCl (X ++ W') H) (hD : va_D A (X ++ W')) (hS : va_S A s.heap H locs) (hA : ∀ q : Nat, s.heap.size ≤ q → A q) (hi : X[i]? = some (a, .inr (6, [.ref v, .int 0, x, y]))) (hj : X[j]? = some (v, .inl (cA 4, n, .inl g))) (hn : n < 2 ^ 31) (hbs : ∀ k, k < n → g k = bs.getD k 0) : ES n bs a v (va_A W' H.size) s H := by
  have hX : ∀ (k : Nat) (q : Nat × va_E), X[k]? = some q → (X ++ W')[k]? = some q := fun k q h => by
    rw [List.getElem?_append_left ((List.getElem?_eq_some_iff.mp h).1)]; exact h
  have apart : ∀ (k : Nat) (q : Nat × va_E), X[k]? = some q → ¬ va_A W' H.size q.1 := by
    intro k q hq h
    have hl := (hP k q (hX k q hq)).lt
    rcases h with ⟨k2, e2, h⟩ | h
    · have h3 : (X ++ W')[X.length + k2]? = some (q.1, e2) := by rw [List.getElem?_append_right (by omega), show X.length + k2 - X.length = k2 by omega]; exact h
      have := hD.1 k (X.length + k2) q (q.1, e2) (hX k q hq) h3 rfl
      have := (List.getElem?_eq_some_iff.mp hq).1
      omega
    · omega
  have hna : ¬ va_A W' H.size a := apart i _ hi
  have hnv : ¬ va_A W' H.size v := apart j _ hj
  obtain ⟨r, h1, cell, q1, q2, q3, q4⟩ := hP i _ (hX i _ hi)
  have hr : r = (RJ0, TJ0, 4) := Option.some.inj (h1.symm.trans rfl)
  subst hr
  obtain ⟨hSl, hfc, kC, hkC, hkind⟩ := hK.1 6 _ rfl
  have fld : ∀ (k : Nat) (w : Value), k < 4 → [Value.ref v, .int 0, x, y][k]? = some w → va_OF (TJ0 k).1 (TJ0 k).2.1 (TJ0 k).2.2.1 w a (va_A W' H.size) s H := by
    intro k w hk hw
    obtain ⟨cf, kf, fi, f, hfi, hsl⟩ := hSl k hk
    refine ⟨cf, kf, fi, f, cell, hfi, (u_facts hfc hkC (u_lays hts hin hk) hfi).1, q1, by rw [q3]; exact fun h => (by cases h), ?_, hna⟩
    rw [hsl, q4 k hk]
    simp [vp_V, hw]
  refine ⟨E_in EC_ok hC hD hS hA, ⟨fun z hz => ?_, fun z w hz hw _ => by omega⟩, ?_⟩
  · obtain rfl : z = 0 := by omega
    refine ⟨⟨cell, q1, by rw [q3]; rfl, by rw [q2]; exact hfc, hna⟩, fld 1 _ (by decide) rfl, fld 0 _ (by decide) rfl, ?_⟩
    refine ⟨vp_cell (cA 4) (n, .inl g), hP j _ (hX j _ hj), (hK.2 4 _ rfl).1 n (fun k => .int (g k)), fun h => (by cases h), ?_, ?_, fun k hk => ?_, hnv⟩
    · rw [vp_cell_i, arrV_size]; exact Nat.le_refl _
    · rw [vp_cell_i, arrV_size]; rfl
    · have hk : k < n := hk
      show (arrV (cA 4) n (fun j => Value.int (g j))).slots[k]? = some (Value.int (bs.getD k 0))
      rw [arrV_read _ _ hk, hbs k hk]
  · exact (hZ.kept hS.2.1).narrow (xg_free hD hS hA)
theorem ES_const {adK adV : Nat → Nat} {A : Nat → Prop} {s : State} {H : Heap} {locs : List Loc} {X W' : va_W} (hE : EV adK adV A s s.heap) (hD : va_D A (X ++ W')) (hS : va_S A s.heap H locs) (hA : ∀ q : Nat, s.heap.size ≤ q → A q) {i : Nat} (hi : i < 13) : ES (lenS.getD i 0) (bytS.getD i []) (adK i) (adV i) (va_A W' H.size) s H := by
  obtain ⟨h1, h2, h3⟩ := (hE.kept hS.2.1).narrow (xg_free hD hS hA)
  refine ⟨h2, ⟨fun z hz => ?_, fun z w hz hw _ => ?_⟩, h3⟩
  · have e : z = 0 := by omega
    subst e
    exact h1.1 i hi
  · omega
theorem g_app {a b : List Int32} {j : Nat} (h : j < a.length) : (a ++ b).getD j 0 = a.getD j 0 := by
  rw [List.getD_eq_getElem?_getD, List.getD_eq_getElem?_getD, List.getElem?_append_left h]
theorem g_appR {a b : List Int32} {j : Nat} : (a ++ b).getD (a.length + j) 0 = b.getD j 0 := by
  rw [List.getD_eq_getElem?_getD, List.getD_eq_getElem?_getD, List.getElem?_append_right (by omega), show a.length + j - a.length = j by omega]
/-- the letters t told in a row -/
def TX (t : List Int32) (g : Nat → Int32) : Prop := ∀ k, k < t.length → g k = t.getD k 0
theorem TX_app {t b : List Int32} {f g : Nat → Int32} (h : TX t f) (h1 : ∀ i, i < t.length → g i = f i) (h2 : ∀ i, i < b.length → g (t.length + i) = b.getD i 0) : TX (t ++ b) g := fun k hk => by
  by_cases z : k < t.length
  · rw [h1 k z, h k z, g_app z]
  · have e : k = t.length + (k - t.length) := by omega
    rw [List.length_append] at hk
    rw [e, g_appR, h2 _ (by omega)]
theorem TX_cp {t : List Int32} {f g : Nat → Int32} (h : TX t f) (h1 : ∀ i, i < t.length → g i = f i) : TX t g := fun k hk => by rw [h1 k hk, h k hk]
theorem TX_nil (g : Nat → Int32) : TX [] g := fun k hk => absurd hk (Nat.not_lt_zero k)
def FL (t : List Int32) : Prop := sb_Fit (fun j => t.getD j 0)
theorem FL_of {t : List Int32} (h : ∀ x ∈ t, fits .byte (.int x) = true) : FL t := fun j => by
  show fits .byte (.int (t.getD j 0)) = true
  rw [List.getD_eq_getElem?_getD]
  cases e : t[j]? with
  | none => exact sb_fit0 0
  | some x => exact h x (List.mem_of_getElem? e)
theorem FLm_dgs {x : Nat} (h : x < 100) : ∀ y ∈ dgs x, fits .byte (.int y) = true := fun y hy => by
  unfold dgs at hy
  split at hy
  · rw [List.mem_singleton] at hy; subst hy; exact dg_f1 x h
  · simp only [List.mem_cons, List.not_mem_nil, or_false] at hy
    rcases hy with rfl | rfl
    · exact dg_f2 x h
    · exact dg_f1 x h
theorem FLm_byt : ∀ i, i < 13 → ∀ y ∈ bytS.getD i [], fits .byte (.int y) = true := by decide +kernel
theorem FL_byt {i : Nat} (h : i < 13) : FL (bytS.getD i []) := FL_of (FLm_byt i h)
theorem lenS_byt : ∀ i, i < 13 → (bytS.getD i []).length = lenS.getD i 0 ∧ lenS.getD i 0 ≤ 8 := by decide +kernel
theorem dgs_len (x : Nat) : (dgs x).length = dgn x := by unfold dgs dgn; split <;> rfl
/-- a method of the law that reads the script, the constants, the statics -/
def EL (adK adV : Nat → Nat) (tO tT tA bS : Nat) (xs : Nat → Int32) (nS : Nat) : (Nat → Prop) → State → Heap → Prop := fun A U H =>
  EV adK adV A U H ∧ ER adK U ∧ EN U ∧ ED tO tT A U H ∧ va_Nw (.castable "[B" "java/lang/Cloneable") U ∧ va_Z "ModeDeskLaw" "TIES" "[Ljava/lang/String;" (.ref tA) A U H ∧ va_T (.object "java/lang/String") tA 4 (fun i => .ref (adK (4 + i))) A U H ∧ va_T .int bS nS (fun j => .int (xs j)) A U H
theorem EL_ok {adK adV : Nat → Nat} {tO tT tA bS : Nat} {xs : Nat → Int32} {nS : Nat} : EOK (EL adK adV tO tT tA bS xs nS) :=
  ⟨fun A s U H hW h => ⟨h.1.moved hW.alike, ER.warm hW h.2.1, EN.warm hW h.2.2.1, ED_ok.1 A s U H hW h.2.2.2.1, va_Nw.warmC hW h.2.2.2.2.1, h.2.2.2.2.2.1.moved hW.alike, h.2.2.2.2.2.2.1.moved hW.alike, h.2.2.2.2.2.2.2.moved hW.alike⟩,
   fun A u U H hv h => ⟨h.1.moved (by rw [hv]; exact Vm.Alike.refl _), ER.same hv h.2.1, EN.same hv.symm h.2.2.1, ED_ok.2.1 A u U H hv h.2.2.2.1, va_Nw.same rfl hv.symm h.2.2.2.2.1, h.2.2.2.2.2.1.moved (by rw [hv]; exact Vm.Alike.refl _), h.2.2.2.2.2.2.1.moved (by rw [hv]; exact Vm.Alike.refl _), h.2.2.2.2.2.2.2.moved (by rw [hv]; exact Vm.Alike.refl _)⟩,
   fun A U H H1 hq h => ⟨h.1.kept hq, h.2.1, h.2.2.1, ED_ok.2.2.1 A U H H1 hq h.2.2.2.1, h.2.2.2.2.1, h.2.2.2.2.2.1.kept hq, h.2.2.2.2.2.2.1.kept hq, h.2.2.2.2.2.2.2.kept hq⟩,
   fun A B U H hAB h => ⟨h.1.narrow hAB, h.2.1, h.2.2.1, ED_ok.2.2.2 A B U H hAB h.2.2.2.1, h.2.2.2.2.1, h.2.2.2.2.2.1.narrow hAB, h.2.2.2.2.2.2.1.narrow hAB, h.2.2.2.2.2.2.2.narrow hAB⟩⟩
