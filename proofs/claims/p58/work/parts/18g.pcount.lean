/-! what the law counts of a span, and the values of a rank -/
def cF (cC : Nat → Nat → Int32) (k : Nat) : Nat → Int32 := fun i => if i < 12 then cC i k else 0
theorem cF_at {cC : Nat → Nat → Int32} {k i : Nat} (h : i < 12) : cF cC k i = cC i k := if_pos h
theorem cF_up {cC : Nat → Nat → Int32} {j k : Nat} {x : Int32} (hj : j < 12) : cF (va_up cC j (upd (cC j) k x)) k = upd (cF cC k) j x := by
  funext i
  unfold cF va_up upd
  by_cases e : i = j
  · subst e; simp [hj]
  · simp [e]
theorem cF_ne {cC : Nat → Nat → Int32} {j k k2 : Nat} {x : Int32} (h : k2 ≠ k) : cF (va_up cC j (upd (cC j) k x)) k2 = cF cC k2 := by
  funext i
  unfold cF va_up upd
  by_cases e : i = j
  · subst e; simp [h]
  · simp [e]
theorem rd3_0 (w : Nat → Int32) : rd w 3 0 = some (w 0) := rfl
theorem rd3_1 (w : Nat → Int32) : rd w 3 1 = some (w 1) := rfl
theorem rd3_2 (w : Nat → Int32) : rd w 3 2 = some (w 2) := rfl
theorem wr3_0 (w : Nat → Int32) (x : Int32) : wr w 3 0 x = some (upd w 0 x) := rfl
theorem wr3_1 (w : Nat → Int32) (x : Int32) : wr w 3 1 x = some (upd w 1 x) := rfl
theorem wr3_2 (w : Nat → Int32) (x : Int32) : wr w 3 2 x = some (upd w 2 x) := rfl
def CcH (cC : Nat → Nat → Int32) (R : List Int) (l : Int) : Prop := cuA (fun i => l + i) R (cF cC 0) (cF cC 1) (cF cC 2) ∧ ∀ v ∈ R, v < 12
theorem CcH.num {cC : Nat → Nat → Int32} {R : List Int} {l : Int} (h : CcH cC R l) {v : Int} (h0 : 0 ≤ v) (h1 : v < 12) : cC v.toNat 0 = zI (cnT R v) := by
  rw [← cF_at (cC := cC) (k := 0) (show v.toNat < 12 by omega)]
  exact h.1.2.2.1 v h0 (by omega)
theorem counted_L {f : Nat → Int32} {n : Nat} {V : Int → Int} {r l : Int} (hf : Ar f n V) (hn : n ≤ 100) (hl : 0 ≤ l) (hr : r < n) (hV : ∀ i : Int, 0 ≤ i → i < n → 0 ≤ V i ∧ V i < 9) : ∀ (k F : Nat) (p : Int) (R : List Int) (cC : Nat → Nat → Int32), k < F → l ≤ p → r + 1 = p + k → (R.length : Int) = p - l → CcH cC R l → ∃ cC', mL_counted_L11 n f (zI r) F (zI p) cC = some cC' ∧ CcH cC' (spA V p k R) l
  | k, 0, p, R, cC, h, _, _, _, _ => absurd h (Nat.not_lt_zero k)
  | 0, F + 1, p, R, cC, _, hp, hk, hL, hC => by
    rw [mL_counted_L11, if_pos (show zI r < zI p by rw [zI_lt (by omega) (by omega) (by omega) (by omega)]; omega)]
    exact ⟨cC, rfl, hC⟩
  | k + 1, F + 1, p, R, cC, h, hp, hk, hL, hC => by
    have hv := hV p (by omega) (by omega)
    obtain ⟨v, ev⟩ : ∃ v, V p = v := ⟨_, rfl⟩
    rw [ev] at hv
    have ok : okT (v :: R) := ⟨by simp only [List.length_cons]; omega, fun x hx => (List.mem_cons.mp hx).elim (fun e => by rw [e]; omega) (fun e => hC.1.1.2 x e)⟩
    have hpush := cuA_push hC.1 ok
    have hj : v.toNat < 12 := by omega
    have hrx : rx 12 (zI v) = some v.toNat := rx_in (by omega) (by omega) (by omega)
    have hnum := hC.num (v := v) (by omega) (by omega)
    have hcn := cnT_nn R v
    have hrl := hC.1.1.1
    have e12 : ∀ x ∈ v :: R, x < 12 := fun x hx => (List.mem_cons.mp hx).elim (fun e => by rw [e]; omega) (hC.2 x)
    rw [mL_counted_L11, if_neg (show ¬ zI r < zI p by rw [zI_lt (by omega) (by omega) (by omega) (by omega)]; omega), rd_A hf (by omega) (by omega) (by omega) (by omega), sob, ev, hrx, sob, rd3_0, sob, hnum]
    have hpos : zI p = zI (l + R.length) := by rw [show l + (R.length : Int) = p by omega]
    by_cases c : v ∈ R
    · have c0 := (cnT_pos R v).mpr c
      rw [if_pos (show ¬ zI (cnT R v) = 0 by rw [z_0, zI_eq (by omega) (by omega) (by omega) (by omega)]; omega), sob, sob, hrx, sob, rd3_0, sob, wr3_0, sob, sob, hrx, sob, wr3_2, sob, zI_a1]
      obtain ⟨cC', e1, h1⟩ := counted_L hf hn hl hr hV k F (p + 1) (v :: R) (va_up (va_up cC v.toNat (upd (cC v.toNat) 0 (cC v.toNat 0 + 1))) v.toNat (upd ((va_up cC v.toNat (upd (cC v.toNat) 0 (cC v.toNat 0 + 1))) v.toNat) 2 (zI p))) (by omega) (by omega) (by omega) (by simp only [List.length_cons]; omega) ⟨by
        rw [cF_ne (by decide), cF_up hj, cF_ne (by decide), cF_ne (by decide), cF_up hj, cF_ne (by decide), hnum, zI_a1, hpos]
        rw [if_pos c] at hpush
        exact hpush, e12⟩
      refine ⟨cC', e1, ?_⟩
      rw [spA, ev]; exact h1
    · have c0 := (cnT_0 R v).mpr c
      rw [if_neg (show ¬ ¬ zI (cnT R v) = 0 by rw [c0]; exact not_not_intro rfl), sob, hrx, sob, wr3_1, sob, sob, sob, hrx, sob, rd3_0, sob, wr3_0, sob, sob, hrx, sob, wr3_2, sob, zI_a1]
      have hz : (va_up cC v.toNat (upd (cC v.toNat) 1 (zI p))) v.toNat 0 = zI (cnT R v) := by
        rw [← hnum]; unfold va_up upd; simp
      obtain ⟨cC', e1, h1⟩ := counted_L hf hn hl hr hV k F (p + 1) (v :: R) (va_up (va_up (va_up cC v.toNat (upd (cC v.toNat) 1 (zI p))) v.toNat (upd ((va_up cC v.toNat (upd (cC v.toNat) 1 (zI p))) v.toNat) 0 ((va_up cC v.toNat (upd (cC v.toNat) 1 (zI p))) v.toNat 0 + 1))) v.toNat (upd ((va_up (va_up cC v.toNat (upd (cC v.toNat) 1 (zI p))) v.toNat (upd ((va_up cC v.toNat (upd (cC v.toNat) 1 (zI p))) v.toNat) 0 ((va_up cC v.toNat (upd (cC v.toNat) 1 (zI p))) v.toNat 0 + 1))) v.toNat) 2 (zI p))) (by omega) (by omega) (by omega) (by simp only [List.length_cons]; omega) ⟨by
        rw [cF_ne (by decide), cF_up hj, cF_ne (by decide), cF_ne (by decide), cF_ne (by decide), cF_up hj, cF_up hj, cF_ne (by decide), cF_ne (by decide), hz, zI_a1, hpos]
        rw [if_neg c] at hpush
        exact hpush, e12⟩
      refine ⟨cC', e1, ?_⟩
      rw [spA, ev]; exact h1
theorem counted_z {f : Nat → Int32} {n : Nat} {V : Int → Int} {r l : Int} (hf : Ar f n V) (hn : n ≤ 100) (hl : 0 ≤ l) (hlr : l ≤ r + 1) (hr : r < n) (hV : ∀ i : Int, 0 ≤ i → i < n → 0 ≤ V i ∧ V i < 9) : ∃ cC, mL_counted n f (fun _ _ => 0) (zI l) (zI r) = some cC ∧ CcH cC (spT V l r) l := by
  obtain ⟨cC, e, h⟩ := counted_L hf hn hl hr hV (r + 1 - l).toNat FU l [] (fun _ _ => 0) (by rw [FU_e]; omega) (by omega) (by omega) (by simp only [List.length_nil]; omega) ⟨cuA_nil (moT_add hl (by omega)) (fun i _ _ => by unfold cF; split <;> rfl), fun v h => by cases h⟩
  refine ⟨cC, ?_, h⟩
  unfold mL_counted
  rw [e, sob]
theorem l_ahead {cC : Nat → Nat → Int32} {R : List Int} {l t : Int} (hC : CcH cC R l) (ht : 0 ≤ t ∧ t ≤ 3) {v w : Int} (hv : v ∈ R) (hw : w ∈ R) : mL_isAhead cC (zI v) (zI w) (zI t) = some (if kyT t R w < kyT t R v then 1 else 0) := by
  rw [← X6_ah hC.1 ht hv hw]
  have bv := hC.1.1.2 v hv
  have bw := hC.1.1.2 w hw
  have av := hC.2 v hv
  have aw := hC.2 w hw
  have r1 : rx 12 (zI v) = some v.toNat := rx_in (by omega) (by omega) (by omega)
  have r2 : rx 12 (zI w) = some w.toNat := rx_in (by omega) (by omega) (by omega)
  have r3 : ∀ k, rd (cF cC k) 1000 (zI v) = some (cC v.toNat k) := fun k => by rw [rd_in (by omega) (by omega) (by omega), cF_at (by omega)]
  have r4 : ∀ k, rd (cF cC k) 1000 (zI w) = some (cC w.toNat k) := fun k => by rw [rd_in (by omega) (by omega) (by omega), cF_at (by omega)]
  unfold mL_isAhead mX6_isAhead
  simp only [r1, r2, r3, r4, sob, rd3_0, rd3_1, rd3_2]
  by_cases c0 : zI t = 0
  · simp only [eq_true c0, not_true_eq_false, if_false, if_true]
  · by_cases c1 : zI t = 1
    · simp only [eq_false c0, eq_true c1, not_true_eq_false, not_false_eq_true, if_false, if_true]
    · by_cases c2 : zI t = 2
      · simp only [eq_false c0, eq_false c1, eq_true c2, not_true_eq_false, not_false_eq_true, if_false, if_true]
      · simp only [eq_false c0, eq_false c1, eq_false c2, not_true_eq_false, not_false_eq_true, if_false, if_true]
/-- whole numbers from j on -/
def rgZ : Int → Nat → List Int
  | _, 0 => []
  | j, k + 1 => j :: rgZ (j + 1) k
theorem rgZ_mem : ∀ (k : Nat) (j v : Int), v ∈ rgZ j k ↔ j ≤ v ∧ v < j + k
  | 0, j, v => by
    simp only [rgZ, List.not_mem_nil, false_iff]
    omega
  | k + 1, j, v => by
    rw [rgZ, List.mem_cons, rgZ_mem k (j + 1)]
    omega
theorem rgZ_nd : ∀ (k : Nat) (j : Int), (rgZ j k).Nodup
  | 0, j => List.nodup_nil
  | k + 1, j => by
    rw [rgZ, List.nodup_cons, rgZ_mem]
    exact ⟨by omega, rgZ_nd k (j + 1)⟩
def ahP (t : Int) (R : List Int) (v : Int) (w : Int) : Bool := decide (w ∈ R) && decide (kyT t R v < kyT t R w)
theorem ahP_rk {t : Int} {R : List Int} (ok : okT R) (h12 : ∀ v ∈ R, v < 12) (v : Int) : (rgZ 0 12).countP (ahP t R v) = rkT t R v (dsT R) := by
  have hp : ((rgZ 0 12).filter (fun w => decide (w ∈ R))).Perm (dsT R) := by
    refine (List.perm_ext_iff_of_nodup ((rgZ_nd 12 0).filter _) (dsT_nd R)).mpr (fun a => ?_)
    rw [List.mem_filter, mem_dsT, rgZ_mem, decide_eq_true_eq]
    constructor
    · exact fun h => h.2
    · intro h
      have := ok.2 a h
      have := h12 a h
      exact ⟨by omega, h⟩
  unfold rkT
  rw [← hp.countP_eq, List.countP_filter]
  refine List.countP_congr (fun w _ => ?_)
  unfold ahP
  simp [and_comm]
theorem rk_L {cC : Nat → Nat → Int32} {R : List Int} {l t : Int} (hC : CcH cC R l) (ht : 0 ≤ t ∧ t ≤ 3) {v : Int} (hv : v ∈ R) : ∀ (k F : Nat) (a j : Int), k < F → 0 ≤ j → 12 = j + k → mL_ranked_L25 cC (zI t) (zI v) F (zI a) (zI j) = some (zI (a + (rgZ j k).countP (ahP t R v)))
  | k, 0, a, j, h, _, _ => absurd h (Nat.not_lt_zero k)
  | 0, F + 1, a, j, _, h0, hk => by
    rw [mL_ranked_L25, z_12, if_pos (show zI 12 ≤ zI j by rw [zI_le (by omega) (by omega) (by omega) (by omega)]; omega)]
    show some (zI a) = some (zI (a + 0))
    rw [Int.add_zero]
  | k + 1, F + 1, a, j, h, h0, hk => by
    have av := hC.2 v hv
    have bv := hC.1.1.2 v hv
    have hnum := hC.num (v := j) h0 (by omega)
    have hcn := cnT_nn R j
    have h120 := hC.1.1.1
    have cc : (((rgZ j (k + 1)).countP (ahP t R v) : Nat) : Int) = (rgZ (j + 1) k).countP (ahP t R v) + (if ahP t R v j = true then 1 else 0) := by
      rw [rgZ, List.countP_cons]
      split <;> simp
    rw [mL_ranked_L25, z_12, if_neg (show ¬ zI 12 ≤ zI j by rw [zI_le (by omega) (by omega) (by omega) (by omega)]; omega)]
    have ih := fun a' => rk_L hC ht hv k F a' (j + 1) (by omega) (by omega) (by omega)
    have no : ahP t R v j = false → some (zI (a + ((rgZ (j + 1) k).countP (ahP t R v) : Nat))) = some (zI (a + ((rgZ j (k + 1)).countP (ahP t R v) : Nat))) := fun e => by
      rw [cc, e, if_neg (by decide), Int.add_zero]
    by_cases c : j = v
    · rw [if_pos (show zI j = zI v by rw [c]), zI_a0, zI_a1, ih a]
      exact no (by unfold ahP; rw [c, decide_eq_false (Int.lt_irrefl _), Bool.and_false])
    · rw [if_neg (show ¬ zI j = zI v by rw [zI_eq (by omega) (by omega) (by omega) (by omega)]; exact c), rx_in h0 (by omega) (by omega), sob, rd3_0, sob, hnum]
      by_cases d : j ∈ R
      · have c0 := (cnT_pos R j).mpr d
        rw [if_neg (show ¬ zI (cnT R j) ≤ 0 by rw [z_0, zI_le (by omega) (by omega) (by omega) (by omega)]; omega), l_ahead hC ht d hv, sob]
        by_cases e : kyT t R v < kyT t R j
        · rw [if_pos e, if_neg i1, zI_a1, zI_a1, ih (a + 1), cc, if_pos (by unfold ahP; rw [decide_eq_true d, decide_eq_true e]; rfl)]
          rw [show a + 1 + (((rgZ (j + 1) k).countP (ahP t R v) : Nat) : Int) = a + ((((rgZ (j + 1) k).countP (ahP t R v) : Nat) : Int) + 1) by omega]
        · rw [if_neg e, if_pos rfl, zI_a0, zI_a1, ih a]
          exact no (by unfold ahP; rw [decide_eq_false e, Bool.and_false])
      · have c0 := (cnT_0 R j).mpr d
        rw [if_pos (show zI (cnT R j) ≤ 0 by rw [c0]; exact Int32.le_refl _), zI_a0, zI_a1, ih a]
        exact no (by unfold ahP; rw [decide_eq_false d, Bool.false_and])
theorem ranked_L {cC : Nat → Nat → Int32} {R S : List Int} {l t : Int} (hC : CcH cC R l) (ht : 0 ≤ t ∧ t ≤ 3) (hS : srT t R S) {i : Nat} (hi : i ≤ S.length) : ∀ (k F : Nat) (j : Int), k < F → 0 ≤ j → 12 = j + k → (∀ h : i < S.length, j ≤ S[i]) → mL_ranked_L2 cC (zI (i : Int)) (zI t) F (zI j) = some (zI (if i < S.length then S.getD i 0 else -2))
  | k, 0, j, h, _, _, _ => absurd h (Nat.not_lt_zero k)
  | 0, F + 1, j, _, h0, hk, hj => by
    rw [mL_ranked_L2, z_12, if_pos (show zI 12 ≤ zI j by rw [zI_le (by omega) (by omega) (by omega) (by omega)]; omega), if_neg (fun h => by
      have h1 := hj h
      have h2 := hC.2 S[i] ((srT_mem hS).mp (List.getElem_mem h))
      omega)]
    rfl
  | k + 1, F + 1, j, h, h0, hk, hj => by
    have hnum := hC.num (v := j) h0 (by omega)
    have hcn := cnT_nn R j
    have h120 := hC.1.1.1
    have hds := dsT_len R
    have hsl := srT_len hS
    rw [mL_ranked_L2, z_12, if_neg (show ¬ zI 12 ≤ zI j by rw [zI_le (by omega) (by omega) (by omega) (by omega)]; omega), rx_in h0 (by omega) (by omega), sob, rd3_0, sob, hnum]
    have ih := fun hh => ranked_L hC ht hS hi k F (j + 1) (by omega) (by omega) (by omega) hh
    by_cases d : j ∈ R
    · have c0 := (cnT_pos R j).mpr d
      have hrl := rkT_le t R j (dsT R)
      have hL := rk_L hC ht d 12 FU 0 0 (by rw [FU_e]; omega) (by omega) (by omega)
      rw [ahP_rk hC.1.1 hC.2, Int.zero_add, show zI (0 : Int) = (0 : Int32) from rfl] at hL
      rw [if_pos (show ¬ zI (cnT R j) = 0 by rw [z_0, zI_eq (by omega) (by omega) (by omega) (by omega)]; omega), hL, sob]
      obtain ⟨i2, hi2, e2⟩ := List.getElem_of_mem ((srT_mem hS).mpr d)
      have r2 := srT_rk hS hi2
      rw [e2] at r2
      rw [r2]
      by_cases e : i2 = i
      · subst e
        rw [if_neg (show ¬ ¬ zI (i2 : Int) = zI (i2 : Int) from not_not_intro rfl), if_pos hi2, List.getD_eq_getElem?_getD, List.getElem?_eq_getElem hi2, e2]
        rfl
      · rw [if_pos (show ¬ zI (i2 : Int) = zI (i : Int) by rw [zI_eq (by omega) (by omega) (by omega) (by omega)]; omega), zI_a1]
        refine ih (fun hh => ?_)
        have h1 := hj hh
        by_cases g : S[i] = j
        · exfalso
          have r3 := srT_rk hS hh
          rw [g, r2] at r3
          exact e r3
        · omega
    · have c0 := (cnT_0 R j).mpr d
      rw [if_neg (show ¬ ¬ zI (cnT R j) = 0 by rw [c0]; exact not_not_intro rfl), zI_a1]
      refine ih (fun hh => ?_)
      have h1 := hj hh
      by_cases g : S[i] = j
      · exact absurd (g ▸ (srT_mem hS).mp (List.getElem_mem hh)) d
      · omega
theorem ranked_z {cC : Nat → Nat → Int32} {R S : List Int} {l t : Int} (hC : CcH cC R l) (ht : 0 ≤ t ∧ t ≤ 3) (hS : srT t R S) {i : Nat} (hi : i ≤ S.length) : mL_ranked cC (zI (i : Int)) (zI t) = some (zI (if i < S.length then S.getD i 0 else -2)) := by
  unfold mL_ranked
  exact ranked_L hC ht hS hi 12 FU 0 (by rw [FU_e]; omega) (by omega) (by omega) (fun h => (hC.1.1.2 _ ((srT_mem hS).mp (List.getElem_mem h))).1)
