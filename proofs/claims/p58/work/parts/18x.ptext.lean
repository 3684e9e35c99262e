/-! the letters of a text at their places -/
def GL (S : List Int32) : Prop := ∀ y ∈ S, y = nI y.toNatClampNeg ∧ y.toNatClampNeg < 128
theorem GL.app {a b : List Int32} (h : GL a) (h2 : GL b) : GL (a ++ b) := fun y hy => (List.mem_append.mp hy).elim (h y) (h2 y)
theorem GL.sp {a : List Int32} (h : GL a) : GL ((32 : Int32) :: a) := fun y hy => (List.mem_cons.mp hy).elim (fun e => by rw [e]; decide +kernel) (h y)
theorem GL.ltT {U : List Int32} (h : GL U) : ltT U := fun k => by
  rw [List.getD_eq_getElem?_getD]
  cases e : U[k]? with
  | none => exact ⟨by decide +kernel, by decide +kernel⟩
  | some x => exact h x (List.mem_of_getElem? e)
theorem GL_byt : ∀ i, i < 13 → ∀ y ∈ bytS.getD i [], y = nI y.toNatClampNeg ∧ y.toNatClampNeg < 128 := by decide +kernel
theorem GL_dgs : ∀ x, x < 100 → ∀ y ∈ dgs x, y = nI y.toNatClampNeg ∧ y.toNatClampNeg < 128 := by decide +kernel
theorem GL_rep (r : Nat) : GL (List.replicate r 32) := fun y hy => by rw [List.eq_of_mem_replicate hy]; decide +kernel
theorem GL_A {va : Nat → Nat} (hv : ∀ k, k < 20 → va k < 7) : ∀ k, k ≤ 20 → GL (dkA va k)
  | 0, _ => GL_byt 0 (by decide)
  | k + 1, h => (GL_A hv k (by omega)).app (GL.sp (GL_dgs _ (by have := hv k (by omega); omega)))
theorem GL_B {t : List Int32} {bk ti : Nat} (ht : GL t) (hb : bk < 100) (h : ti < 4) : GL (dkB t bk ti) :=
  ((((ht.app (GL_byt 9 (by decide))).app (GL_dgs _ hb)).app (GL_byt 10 (by decide))).app (GL_byt (4 + ti) (by omega))).app (GL_byt 11 (by decide))
theorem GL_C {wt : Nat → Nat} {t : List Int32} (ht : GL t) (hv : ∀ k, k < 20 → 1 ≤ wt k ∧ wt k ≤ 3) : ∀ k, k ≤ 20 → GL (dkC wt t k)
  | 0, _ => ht
  | k + 1, h => by
    unfold dkC
    split
    · exact (((((GL_C ht hv k (by omega)).app (GL_byt 12 (by decide))).app (GL_dgs k (by omega))).app (GL_byt 8 (by decide))).app (GL_dgs _ (by have := hv k (by omega); omega))).app (GL_byt 11 (by decide))
    · exact GL_C ht hv k (by omega)
/-- S stands in U from p on -/
def StT (U : List Int32) (p : Nat) (S : List Int32) : Prop := ∃ P R, U = P ++ (S ++ R) ∧ P.length = p
theorem StT.l {U a b : List Int32} {p : Nat} (h : StT U p (a ++ b)) : StT U p a := by
  obtain ⟨P, R, e, hp⟩ := h
  exact ⟨P, b ++ R, by rw [e, List.append_assoc], hp⟩
theorem StT.r {U a b : List Int32} {p : Nat} (h : StT U p (a ++ b)) : StT U (p + a.length) b := by
  obtain ⟨P, R, e, hp⟩ := h
  exact ⟨P ++ a, R, by rw [e, List.append_assoc, List.append_assoc], by rw [List.length_append, hp]⟩
theorem StT.le {U S : List Int32} {p : Nat} (h : StT U p S) {k : Nat} (hk : k < S.length) {z : Int} (hz : z = (p : Int) + k) : leT U z = ((S.getD k 0).toNatClampNeg : Int) := by
  obtain ⟨P, R, e, hp⟩ := h
  unfold leT
  rw [hz, show ((p : Int) + k).toNat = P.length + k by omega, e, g_appR, g_app hk]
theorem StT.c {U S : List Int32} {p : Nat} (h : StT U p S) {k : Nat} {x : Int} (hk : k < S.length) (hx : ((S.getD k 0).toNatClampNeg : Int) = x) {z : Int} (hz : z = (p : Int) + k) : leT U z = x := (h.le hk hz).trans hx
theorem wd_cl : ∀ w, w < 8 → ∀ k, k < lenS.getD w 0 → ((bytS.getD w []).getD k 0).toInt = (((bytS.getD w []).getD k 0).toNatClampNeg : Int) := by decide +kernel
theorem StT.wd {U : List Int32} {p w : Nat} (h : StT U p (bytS.getD w [])) (hw : w < 8) {s a : Int} (hs : s = p) (ha : a = s + wlT w) : wmT (leT U) s a w := by
  have hl := lenS_byt w (by omega)
  refine ⟨by omega, fun k h0 h1 => ?_⟩
  have h1' : k < (lenS.getD w 0 : Nat) := h1
  rw [h.le (k := k.toNat) (z := s + k) (by omega) (by omega)]
  exact (wd_cl w hw k.toNat (by omega)).symm
theorem dg_c1 : ∀ x, x < 100 → (dgO x).toNatClampNeg = 48 + x % 10 := by decide +kernel
theorem dg_c2 : ∀ x, x < 100 → (dgT x).toNatClampNeg = 48 + x / 10 := by decide +kernel
theorem StT.dg {U : List Int32} {p x : Nat} (h : StT U p (dgs x)) (hx : x < 10) {z : Int} (hz : z = p) : leT U z = 48 + x := by
  have := h.le (k := 0) (by rw [dgs_len]; have := dgn_in x; omega) (z := z) (by omega)
  rw [this]
  unfold dgs
  rw [if_pos hx]
  show ((dgO x).toNatClampNeg : Int) = _
  rw [dg_c1 x (by omega)]; omega
theorem StT.nu {U : List Int32} {p x : Nat} (h : StT U p (dgs x)) (hx : x < 100) {z : Int} (hz : z = p) : (∀ i, z ≤ i → i < z + dgn x → 48 ≤ leT U i ∧ leT U i ≤ 57) ∧ nuV (leT U) z (dgn x) 0 = x := by
  by_cases c : x < 10
  · have e : dgn x = 1 := by unfold dgn; rw [if_pos c]
    have hd := h.dg c hz
    rw [e]
    refine ⟨fun i h0 h1 => by rw [show i = z by omega, hd]; omega, ?_⟩
    show 0 * 10 + (leT U z - 48) = _
    rw [hd]; omega
  · have e : dgn x = 2 := by unfold dgn; rw [if_neg c]
    have es : dgs x = [dgT x, dgO x] := by unfold dgs; rw [if_neg c]
    have h0 : leT U z = 48 + (x / 10 : Nat) := by
      rw [h.le (k := 0) (z := z) (by rw [es, List.length_cons, List.length_cons]; omega) (by omega), es]
      show ((dgT x).toNatClampNeg : Int) = _
      rw [dg_c2 x hx]; omega
    have h1 : leT U (z + 1) = 48 + (x % 10 : Nat) := by
      rw [h.le (k := 1) (z := z + 1) (by rw [es, List.length_cons, List.length_cons]; omega) (by omega), es]
      show ((dgO x).toNatClampNeg : Int) = _
      rw [dg_c1 x hx]; omega
    rw [e]
    refine ⟨fun i g0 g1 => ?_, ?_⟩
    · rcases (show i = z ∨ i = z + 1 by omega) with rfl | rfl
      · rw [h0]; omega
      · rw [h1]; omega
    · show (0 * 10 + (leT U z - 48)) * 10 + (leT U (z + 1) - 48) = _
      rw [h0, h1]; omega
theorem dkA_l {va : Nat → Nat} (hv : ∀ k, k < 20 → va k < 7) : ∀ k, k ≤ 20 → (dkA va k).length = 3 + 2 * k
  | 0, _ => rfl
  | k + 1, h => by
    have h1 := hv k (by omega)
    show (dkA va k ++ (32 :: dgs (va k))).length = _
    rw [List.length_append, dkA_l hv k (by omega), List.length_cons, dgs_len, dgn, if_pos (by omega)]; omega
theorem StT.A {U : List Int32} {va : Nat → Nat} (hv : ∀ k, k < 20 → va k < 7) : ∀ k, k ≤ 20 → StT U 0 (dkA va k) → ∀ j, j < k → leT U (3 + 2 * (j : Int)) = 32 ∧ leT U (3 + 2 * (j : Int) + 1) = 48 + va j
  | 0, _, _, j, hj => absurd hj (Nat.not_lt_zero j)
  | k + 1, hk, h, j, hj => by
    have h : StT U 0 (dkA va k ++ (32 :: dgs (va k))) := h
    by_cases c : j < k
    · exact StT.A hv k (by omega) h.l j c
    · have e : j = k := by omega
      subst e
      have hr := h.r
      rw [dkA_l hv j (by omega)] at hr
      have hr2 : StT U (0 + (3 + 2 * j)) ([32] ++ dgs (va j)) := hr
      have h3 := hv j (by omega)
      refine ⟨?_, hr2.r.dg (by omega) (by rw [show ([32] : List Int32).length = 1 from rfl]; omega)⟩
      exact hr2.l.c (k := 0) (by decide) (by decide +kernel) (by omega)
/-- one line of a weight -/
def dkW (k w : Nat) : List Int32 := bytS.getD 12 [] ++ dgs k ++ bytS.getD 8 [] ++ dgs w ++ bytS.getD 11 []
theorem dkC_s {wt : Nat → Nat} {t : List Int32} {k : Nat} (h : 1 < wt k) : dkC wt t (k + 1) = dkC wt t k ++ dkW k (wt k) := by
  rw [dkC, if_pos h, dkW]
  simp only [List.append_assoc]
theorem dkC_n {wt : Nat → Nat} {t : List Int32} {k : Nat} (h : ¬ 1 < wt k) : dkC wt t (k + 1) = dkC wt t k := by rw [dkC, if_neg h]
theorem dkW_l {k w : Nat} (hw : w < 10) : (dkW k w).length = 10 + dgn k := by
  have h1 := dgs_len k
  have h2 : (dgs w).length = 1 := by rw [dgs_len, dgn, if_pos hw]
  have h5 : (bytS.getD 12 []).length = 7 := rfl
  have h6 : (bytS.getD 8 []).length = 1 := rfl
  have h7 : (bytS.getD 11 []).length = 1 := rfl
  unfold dkW
  simp only [List.length_append]; omega
theorem StT.C {U : List Int32} {wt : Nat → Nat} {t : List Int32} : ∀ (d k : Nat), StT U 0 (dkC wt t (k + d)) → StT U 0 (dkC wt t k)
  | 0, k, h => h
  | d + 1, k, h => by
    have h : StT U 0 (dkC wt t ((k + d) + 1)) := h
    refine StT.C d k ?_
    by_cases c : 1 < wt (k + d)
    · rw [dkC_s c] at h; exact h.l
    · rw [dkC_n c] at h; exact h
theorem StT.W {U : List Int32} {p k w : Nat} (h : StT U p (dkW k w)) (hk : k < 100) (hw : w < 10) {a : Int} (ha : a = p) :
    wmT (leT U) a (a + 6) 1 ∧ leT U (a + 6) = 32 ∧ ((∀ i, a + 6 + 1 ≤ i → i < a + 6 + 1 + dgn k → 48 ≤ leT U i ∧ leT U i ≤ 57) ∧ nuV (leT U) (a + 6 + 1) (dgn k) 0 = k) ∧ leT U (a + 6 + 1 + dgn k) = 32 ∧ leT U (a + 6 + 2 + dgn k) = 48 + w ∧ leT U (a + 6 + 3 + dgn k) = 59 := by
  have hl := dgs_len k
  have hw1 : (dgs w).length = 1 := by rw [dgs_len, dgn, if_pos hw]
  have l12 : (bytS.getD 12 []).length = 7 := rfl
  have l8 : (bytS.getD 8 []).length = 1 := rfl
  unfold dkW at h
  have h11 := h.r
  have h4 := h.l.r
  have h8 := h.l.l.r
  have hk2 := h.l.l.l.r
  have h12 := h.l.l.l.l
  simp only [List.length_append, l12, l8, hl, hw1] at h11 h4 h8 hk2
  rw [show bytS.getD 12 [] = bytS.getD 1 [] ++ [32] from rfl] at h12
  refine ⟨h12.l.wd (by decide) ha (by rw [show wlT 1 = 6 from rfl]), ?_, hk2.nu hk (by omega), ?_, h4.dg hw (by omega), ?_⟩
  · exact h12.r.c (k := 0) (by decide) (by decide +kernel) (by rw [show (bytS.getD 1 []).length = 6 from rfl]; omega)
  · exact h8.c (k := 0) (by decide) (by decide +kernel) (by omega)
  · exact h11.c (k := 0) (by decide) (by decide +kernel) (by omega)
theorem dkB_l {t : List Int32} {bk ti : Nat} (hb : bk < 10) : ((dkB t bk ti).length : Int) = t.length + 15 + wlT (4 + ti) ∨ 4 ≤ ti := by
  by_cases c : 4 ≤ ti
  · exact Or.inr c
  · have h3 := (lenS_byt (4 + ti) (by omega)).1
    have h4 : (bytS.getD 9 []).length = 7 := rfl
    have h5 : (bytS.getD 10 []).length = 6 := rfl
    have h6 : (bytS.getD 11 []).length = 1 := rfl
    have h7 : (dgs bk).length = 1 := by rw [dgs_len, dgn, if_pos hb]
    refine Or.inl ?_
    unfold dkB wlT
    simp only [List.length_append]; omega
theorem StT.B {U t : List Int32} {bk ti : Nat} (h : StT U 0 (dkB t bk ti)) (hb : bk < 10) (hti : ti < 4) {a : Int} (ha : a = t.length) :
    leT U a = 59 ∧ wmT (leT U) (a + 1) (a + 6) 2 ∧ leT U (a + 6) = 32 ∧ leT U (a + 7) = 48 + bk ∧ leT U (a + 8) = 59 ∧ wmT (leT U) (a + 9) (a + 13) 3 ∧ leT U (a + 13) = 32 ∧ wmT (leT U) (a + 14) (a + 14 + wlT (4 + ti)) (4 + ti) ∧ leT U (a + 14 + wlT (4 + ti)) = 59 := by
  have hl := lenS_byt (4 + ti) (by omega)
  have hb1 : (dgs bk).length = 1 := by rw [dgs_len, dgn, if_pos hb]
  have l9 : (bytS.getD 9 []).length = 7 := rfl
  have l10 : (bytS.getD 10 []).length = 6 := rfl
  unfold dkB at h
  have h11 := h.r
  have hn := h.l.r
  have h10 := h.l.l.r
  have hd := h.l.l.l.r
  have h9 := h.l.l.l.l.r
  simp only [List.length_append, l9, l10, hb1] at h11 hn h10 hd
  rw [show bytS.getD 10 [] = ([59] ++ bytS.getD 3 []) ++ [32] from rfl] at h10
  rw [show bytS.getD 9 [] = ([59] ++ bytS.getD 2 []) ++ [32] from rfl] at h9
  have e1 : ([59] : List Int32).length = 1 := rfl
  have e2 : (([59] : List Int32) ++ bytS.getD 2 []).length = 6 := rfl
  have e3 : (([59] : List Int32) ++ bytS.getD 3 []).length = 5 := rfl
  have k9 := h9.l.r
  have k10 := h10.l.r
  have r9 := h9.r
  have r10 := h10.r
  rw [e1] at k9 k10
  rw [e2] at r9
  rw [e3] at r10
  refine ⟨?_, k9.wd (by decide) (by omega) (by rw [show wlT 2 = 5 from rfl]; omega), ?_, hd.dg hb (by omega), ?_, k10.wd (by decide) (by omega) (by rw [show wlT 3 = 4 from rfl]; omega), ?_, hn.wd (by omega) (by omega) rfl, ?_⟩
  · exact h9.l.l.c (k := 0) (by decide) (by decide +kernel) (by omega)
  · exact r9.c (k := 0) (by decide) (by decide +kernel) (by omega)
  · exact h10.l.l.c (k := 0) (by decide) (by decide +kernel) (by omega)
  · exact r10.c (k := 0) (by decide) (by decide +kernel) (by omega)
  · exact h11.c (k := 0) (by decide) (by decide +kernel) (by unfold wlT; omega)
