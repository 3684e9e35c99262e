/-! PURE ROWS. sort: the class' neighbours change places, the reference counts -/
/-- how many of k places from l on -/
def nuT (p : Int → Bool) : Int → Nat → Int
  | _, 0 => 0
  | l, k + 1 => (if p l = true then 1 else 0) + nuT p (l + 1) k
theorem nuT_add (p : Int → Bool) : ∀ (a b : Nat) (l : Int), nuT p l (a + b) = nuT p l a + nuT p (l + a) b
  | 0, b, l => by simp [nuT]
  | a + 1, b, l => by
    rw [show a + 1 + b = (a + b) + 1 by omega]
    simp only [nuT]
    rw [nuT_add p a b (l + 1), show l + 1 + (a : Int) = l + ((a + 1 : Nat) : Int) by omega]
    omega
theorem nuT_eq {p q : Int → Bool} : ∀ (k : Nat) (l : Int), (∀ i, l ≤ i → i < l + k → p i = q i) → nuT p l k = nuT q l k
  | 0, l, _ => rfl
  | k + 1, l, h => by
    simp only [nuT]
    rw [h l (by omega) (by omega), nuT_eq k (l + 1) (fun i h0 h1 => h i (by omega) (by omega))]
theorem nuT_all {p : Int → Bool} : ∀ (k : Nat) (l : Int), (∀ i, l ≤ i → i < l + k → p i = true) → nuT p l k = k
  | 0, l, _ => rfl
  | k + 1, l, h => by
    simp only [nuT]
    rw [h l (by omega) (by omega), nuT_all k (l + 1) (fun i h0 h1 => h i (by omega) (by omega))]
    simp only [if_true]; omega
theorem nuT_no {p : Int → Bool} : ∀ (k : Nat) (l : Int), (∀ i, l ≤ i → i < l + k → p i = false) → nuT p l k = 0
  | 0, l, _ => rfl
  | k + 1, l, h => by
    simp only [nuT]
    rw [h l (by omega) (by omega), nuT_no k (l + 1) (fun i h0 h1 => h i (by omega) (by omega))]
    simp
theorem nuT_in (p : Int → Bool) : ∀ (k : Nat) (l : Int), 0 ≤ nuT p l k ∧ nuT p l k ≤ k
  | 0, l => by simp only [nuT]; omega
  | k + 1, l => by
    have := nuT_in p k (l + 1)
    simp only [nuT]
    by_cases c : p l = true
    · rw [if_pos c]; omega
    · rw [if_neg c]; omega
/-- neighbours q - 1 and q change places: the number stays -/
theorem nuT_sw {p : Int → Bool} {s : Int → Int} {l q : Int} {m : Nat} (hq : l < q) (hq2 : q < l + m) : nuT (fun j => p (swI s (q - 1) q j)) l m = nuT (fun j => p (s j)) l m := by
  have e1 : m = (q - 1 - l).toNat + (2 + (l + m - (q + 1)).toNat) := by omega
  rw [e1, nuT_add, nuT_add, nuT_add, nuT_add]
  have ea : l + ((q - 1 - l).toNat : Int) = q - 1 := by omega
  have eb : q - 1 + ((2 : Nat) : Int) = q + 1 := by omega
  rw [ea, eb]
  have h1 : nuT (fun j => p (swI s (q - 1) q j)) l (q - 1 - l).toNat = nuT (fun j => p (s j)) l (q - 1 - l).toNat := nuT_eq _ _ (fun i h0 h1 => by
    show p (swI s (q - 1) q i) = p (s i)
    unfold swI
    rw [if_neg (by omega), if_neg (by omega)])
  have h2 : nuT (fun j => p (swI s (q - 1) q j)) (q + 1) (l + m - (q + 1)).toNat = nuT (fun j => p (s j)) (q + 1) (l + m - (q + 1)).toNat := nuT_eq _ _ (fun i h0 h1 => by
    show p (swI s (q - 1) q i) = p (s i)
    unfold swI
    rw [if_neg (by omega), if_neg (by omega)])
  have h3 : nuT (fun j => p (swI s (q - 1) q j)) (q - 1) 2 = nuT (fun j => p (s j)) (q - 1) 2 := by
    simp only [nuT]
    rw [show q - 1 + 1 = q by omega]
    have w1 : swI s (q - 1) q (q - 1) = s q := by unfold swI; rw [if_pos rfl]
    have w2 : swI s (q - 1) q q = s (q - 1) := by unfold swI; rw [if_neg (by omega), if_pos rfl]
    simp only [w1, w2]
    omega
  rw [h1, h2, h3]
/-- the order of sources: by value, of like ones as they stood -/
def vkT (V : Int → Int) (up : Prop) [Decidable up] (i : Int) : Int := if up then V i else 1000 - V i
def soK (V : Int → Int) (up : Prop) [Decidable up] (i : Int) : Int := vkT V up i * 1000 + i
/-- s: where what stands at a place came from -/
def soI (V : Int → Int) (up : Prop) [Decidable up] (l r : Int) (s : Int → Int) : Prop := (∀ j, l ≤ j → j ≤ r → l ≤ s j ∧ s j ≤ r) ∧ (∀ q, l ≤ q → q ≤ r → ∃ j, l ≤ j ∧ j ≤ r ∧ s j = q) ∧ (∀ c, nuT (fun j => decide (soK V up (s j) < c)) l (r + 1 - l).toNat = nuT (fun j => decide (soK V up j < c)) l (r + 1 - l).toNat) ∧ (∀ j, ¬ (l ≤ j ∧ j ≤ r) → s j = j)
theorem soI_sw {V : Int → Int} {up : Prop} [Decidable up] {l r q : Int} {s : Int → Int} (h : soI V up l r s) (hq : l < q) (hq2 : q ≤ r) : soI V up l r (swI s (q - 1) q) := by
  obtain ⟨h1, h2, h3, h4⟩ := h
  refine ⟨fun j g0 g1 => ?_, fun y g0 g1 => ?_, fun c => ?_, fun j g0 => ?_⟩
  · unfold swI
    by_cases a : j = q - 1
    · rw [if_pos a]; exact h1 q (by omega) hq2
    · rw [if_neg a]
      by_cases b : j = q
      · rw [if_pos b]; exact h1 (q - 1) (by omega) (by omega)
      · rw [if_neg b]; exact h1 j g0 g1
  · obtain ⟨j, y1, y2, y3⟩ := h2 y g0 g1
    by_cases a : j = q - 1
    · exact ⟨q, by omega, hq2, by unfold swI; rw [if_neg (by omega), if_pos rfl, ← a]; exact y3⟩
    · by_cases b : j = q
      · exact ⟨q - 1, by omega, by omega, by unfold swI; rw [if_pos rfl, ← b]; exact y3⟩
      · exact ⟨j, y1, y2, by unfold swI; rw [if_neg a, if_neg b]; exact y3⟩
  · rw [← h3 c]
    exact nuT_sw (p := fun x => decide (soK V up x < c)) hq (by omega)
  · unfold swI
    rw [if_neg (by omega), if_neg (by omega)]
    exact h4 j g0
theorem X2_isWrong_z {a b : Int} {up : Int32} (ha : 0 ≤ a ∧ a < 1000) (hb : 0 ≤ b ∧ b < 1000) : mX2_isWrong (zI a) (zI b) up = some (bz ((if ¬ up = 0 then b else 1000 - b) < (if ¬ up = 0 then a else 1000 - a))) := by
  unfold mX2_isWrong
  by_cases c : up = 0
  · rw [if_pos c]
    refine bz1 ?_
    simp only [c, not_true_eq_false, if_false]
    rw [zI_le (by omega) (by omega) (by omega) (by omega)]
    omega
  · rw [if_neg c]
    refine bz1 ?_
    simp only [c, not_false_eq_true, if_true]
    rw [zI_le (by omega) (by omega) (by omega) (by omega)]
    omega
/-- the sorted part grows: p comes to its place -/
theorem X2_order_I {n l r p : Int} {V G : Int → Int} {up : Int32} (hB : ∀ i, 0 ≤ i → i < n → (0 ≤ V i ∧ V i < 1000) ∧ 1 ≤ G i ∧ G i ≤ 9) (hl : 0 ≤ l) (hr : r < n) (hp : l < p ∧ p ≤ r) : ∀ (k f : Nat) (q : Int) (t : RowT) (s : Int → Int), k < f → q = l + k → q ≤ p → Rw t n (fun i => V (s i)) (fun i => G (s i)) → soI V (¬ up = 0) l r s → s q = p → (∀ j, p < j → s j = j) → (∀ j, l ≤ j → j ≤ p → j ≠ q → s j < p) → (∀ i j, l ≤ i → i < j → j ≤ p → i ≠ q → j ≠ q → soK V (¬ up = 0) (s i) < soK V (¬ up = 0) (s j)) → (∀ j, q < j → j ≤ p → soK V (¬ up = 0) p < soK V (¬ up = 0) (s j)) →
    ∃ t' s', mX2_order_L15 (zI l) up f (zI q) t = some t' ∧ Rw t' n (fun i => V (s' i)) (fun i => G (s' i)) ∧ soI V (¬ up = 0) l r s' ∧ (∀ j, p < j → s' j = j) ∧ (∀ j, l ≤ j → j ≤ p → s' j ≤ p) ∧ (∀ i j, l ≤ i → i < j → j ≤ p → soK V (¬ up = 0) (s' i) < soK V (¬ up = 0) (s' j))
  | k, 0, q, t, s, h, _, _, _, _, _, _, _, _, _ => absurd h (Nat.not_lt_zero k)
  | 0, f + 1, q, t, s, _, hk, hqp, h1, h2, h3, h4, h5, h6, h7 => by
    have hn := h1.1
    rw [mX2_order_L15, if_pos (show zI q ≤ zI l by rw [zI_le (by omega) (by omega) (by omega) (by omega)]; omega)]
    refine ⟨t, s, rfl, h1, h2, h4, fun j g0 g1 => ?_, fun i j g0 g1 g2 => ?_⟩
    · by_cases e : j = q
      · rw [e, h3]; omega
      · have := h5 j g0 g1 e; omega
    · by_cases e : i = q
      · rw [e, h3]; exact h7 j (by omega) g2
      · exact h6 i j g0 g1 g2 e (by omega)
  | k + 1, f + 1, q, t, s, h, hk, hqp, h1, h2, h3, h4, h5, h6, h7 => by
    have hn := h1.1
    have hsq := h2.1 (q - 1) (by omega) (by omega)
    have hlt := h5 (q - 1) (by omega) (by omega) (by omega)
    have b1 := (hB (s (q - 1)) (by omega) (by omega)).1
    have b2 := (hB p (by omega) (by omega)).1
    rw [mX2_order_L15, if_neg (show ¬ zI q ≤ zI l by rw [zI_le (by omega) (by omega) (by omega) (by omega)]; omega), zI_m1, rd_A h1.2.2.1 (by omega) (by omega) (by omega) (by omega), sob, rd_A h1.2.2.1 (by omega) (by omega) (by omega) (by omega), sob]
    rw [h3, X2_isWrong_z b1 b2, sob]
    by_cases c : (if ¬ up = 0 then V p else 1000 - V p) < (if ¬ up = 0 then V (s (q - 1)) else 1000 - V (s (q - 1)))
    · rw [bz_t c, if_neg i1]
      obtain ⟨t1, e1, h8⟩ := X2_exchange_z h1 (p := q - 1) (q := q) (by omega) (by omega)
      rw [e1, sob, zI_d1]
      have hkey : soK V (¬ up = 0) p < soK V (¬ up = 0) (s (q - 1)) := by
        unfold soK vkT
        omega
      obtain ⟨t2, s2, e2, h9⟩ := X2_order_I hB hl hr hp k f (q - 1) t1 (swI s (q - 1) q) (by omega) (by omega) (by omega) (h8.eq (fun i _ _ => by
        unfold swI
        by_cases a : i = q - 1
        · simp only [if_pos a]; exact ⟨trivial, trivial⟩
        · simp only [if_neg a]
          by_cases b : i = q
          · simp only [if_pos b]; exact ⟨trivial, trivial⟩
          · simp only [if_neg b]; exact ⟨trivial, trivial⟩)) (soI_sw h2 (by omega) (by omega)) (by unfold swI; rw [if_pos rfl]; exact h3) (fun j g0 => by unfold swI; rw [if_neg (by omega), if_neg (by omega)]; exact h4 j g0) (fun j g0 g1 g2 => by
        unfold swI
        rw [if_neg g2]
        by_cases b : j = q
        · rw [if_pos b]; exact hlt
        · rw [if_neg b]; exact h5 j g0 g1 b) (fun i j g0 g1 g2 g3 g4 => by
        unfold swI
        rw [if_neg g3, if_neg g4]
        by_cases a : i = q
        · rw [if_pos a, if_neg (by omega)]
          exact h6 (q - 1) j (by omega) (by omega) g2 (by omega) (by omega)
        · rw [if_neg a]
          by_cases b : j = q
          · rw [if_pos b]; exact h6 i (q - 1) g0 (by omega) (by omega) a (by omega)
          · rw [if_neg b]; exact h6 i j g0 g1 g2 a b) (fun j g0 g1 => by
        unfold swI
        rw [if_neg (by omega)]
        by_cases b : j = q
        · rw [if_pos b]; exact hkey
        · rw [if_neg b]; exact h7 j (by omega) g1)
      exact ⟨t2, s2, e2, h9⟩
    · rw [bz_f c, if_pos rfl]
      have hkey : soK V (¬ up = 0) (s (q - 1)) < soK V (¬ up = 0) p := by
        unfold soK vkT
        omega
      refine ⟨t, s, rfl, h1, h2, h4, fun j g0 g1 => ?_, fun i j g0 g1 g2 => ?_⟩
      · by_cases e : j = q
        · rw [e, h3]; omega
        · have := h5 j g0 g1 e; omega
      · by_cases e : i = q
        · rw [e, h3]; exact h7 j (by omega) g2
        · by_cases e2 : j = q
          · rw [e2, h3]
            by_cases e3 : i = q - 1
            · rw [e3]; exact hkey
            · have := h6 i (q - 1) g0 (by omega) (by omega) e (by omega); omega
          · exact h6 i j g0 g1 g2 e e2
theorem X2_order_O {n l r : Int} {V G : Int → Int} {up : Int32} (hB : ∀ i, 0 ≤ i → i < n → (0 ≤ V i ∧ V i < 1000) ∧ 1 ≤ G i ∧ G i ≤ 9) (hl : 0 ≤ l) (hlr : l ≤ r) (hr : r < n) : ∀ (k f : Nat) (p : Int) (t : RowT) (s : Int → Int), k < f → l < p → r + 1 = p + k → Rw t n (fun i => V (s i)) (fun i => G (s i)) → soI V (¬ up = 0) l r s → (∀ j, p ≤ j → s j = j) → (∀ j, l ≤ j → j < p → s j < p) → (∀ i j, l ≤ i → i < j → j < p → soK V (¬ up = 0) (s i) < soK V (¬ up = 0) (s j)) →
    ∃ t' s', mX2_order_L5 (zI l) (zI r) up f (zI p) t = some t' ∧ Rw t' n (fun i => V (s' i)) (fun i => G (s' i)) ∧ soI V (¬ up = 0) l r s' ∧ (∀ i j, l ≤ i → i < j → j ≤ r → soK V (¬ up = 0) (s' i) < soK V (¬ up = 0) (s' j))
  | k, 0, p, t, s, h, _, _, _, _, _, _, _ => absurd h (Nat.not_lt_zero k)
  | 0, f + 1, p, t, s, _, hp, hk, h1, h2, h3, h4, h5 => by
    have hn := h1.1
    rw [mX2_order_L5, if_pos (show zI r < zI p by rw [zI_lt (by omega) (by omega) (by omega) (by omega)]; omega)]
    exact ⟨t, s, rfl, h1, h2, fun i j g0 g1 g2 => h5 i j g0 g1 (by omega)⟩
  | k + 1, f + 1, p, t, s, h, hp, hk, h1, h2, h3, h4, h5 => by
    have hn := h1.1
    obtain ⟨t1, s1, e1, q1, q2, q3, q4, q5⟩ := X2_order_I hB hl hr (p := p) (by omega) (p - l).toNat FU p t s (by rw [FU_e]; omega) (by omega) (by omega) h1 h2 (h3 p (by omega)) (fun j g0 => h3 j (by omega)) (fun j g0 g1 g2 => h4 j g0 (by omega)) (fun i j g0 g1 g2 g3 g4 => h5 i j g0 g1 (by omega)) (fun j g0 g1 => by omega)
    rw [mX2_order_L5, if_neg (show ¬ zI r < zI p by rw [zI_lt (by omega) (by omega) (by omega) (by omega)]; omega), e1, sob, zI_a1]
    exact X2_order_O hB hl hlr hr k f (p + 1) t1 s1 (by omega) (by omega) (by omega) q1 q2 (fun j g0 => q3 j (by omega)) (fun j g0 g1 => by have := q4 j g0 (by omega); omega) (fun i j g0 g1 g2 => q5 i j g0 g1 (by omega))
theorem X2_order_z {t : RowT} {n l r : Int} {V G : Int → Int} {up : Int32} (hR : Rw t n V G) (hl : 0 ≤ l) (hlr : l ≤ r) (hr : r < n) : ∃ t' s, mX2_order t (zI l) (zI r) up = some t' ∧ Rw t' n (fun i => V (s i)) (fun i => G (s i)) ∧ soI V (¬ up = 0) l r s ∧ (∀ i j, l ≤ i → i < j → j ≤ r → soK V (¬ up = 0) (s i) < soK V (¬ up = 0) (s j)) := by
  have hn := hR.1
  obtain ⟨t', s, e, h⟩ := X2_order_O (up := up) hR.2.2.2.2 hl hlr hr (r - l).toNat FU (l + 1) t (fun i => i) (by rw [FU_e]; omega) (by omega) (by omega) hR ⟨fun j g0 g1 => ⟨g0, g1⟩, fun q g0 g1 => ⟨q, g0, g1, rfl⟩, fun c => rfl, fun j _ => rfl⟩ (fun j _ => rfl) (fun j g0 g1 => g1) (fun i j g0 g1 g2 => by omega)
  refine ⟨t', s, ?_, h⟩
  unfold mX2_order
  rw [zI_a1, e, sob]
/-- how many stand ahead of the one at a place -/
theorem soI_cnt {V : Int → Int} {up : Prop} [Decidable up] {l r : Int} {s : Int → Int} (h : soI V up l r s) (hs : ∀ i j, l ≤ i → i < j → j ≤ r → soK V up (s i) < soK V up (s j)) {i : Int} (hi : l ≤ i ∧ i ≤ r) : nuT (fun j => decide (soK V up j < soK V up (s i))) l (r + 1 - l).toNat = i - l := by
  rw [← h.2.2.1, show (r + 1 - l).toNat = (i - l).toNat + (r + 1 - i).toNat by omega, nuT_add, nuT_all (i - l).toNat l (fun j g0 g1 => by
    show decide (soK V up (s j) < soK V up (s i)) = true
    rw [decide_eq_true_eq]
    exact hs j i g0 (by omega) hi.2), nuT_no (r + 1 - i).toNat (l + ((i - l).toNat : Int)) (fun j g0 g1 => by
    show decide (soK V up (s j) < soK V up (s i)) = false
    rw [decide_eq_false_iff_not]
    by_cases e : j = i
    · rw [e]; omega
    · have := hs i j hi.1 (by omega) (by omega); omega)]
  omega
theorem X6_sort_I {value weight : FnT} {n r p : Int} {V G : Int → Int} {up : Int32} (hv : Rv value weight n V G) (hr : r < n) (hp : 0 ≤ p ∧ p ≤ r) : ∀ (k f : Nat) (a q : Int), k < f → 0 ≤ q → r + 1 = q + k → mX6_sort_L35 value (zI r) up (zI p) f (zI a) (zI q) = some (zI (a + nuT (fun j => decide (soK V (¬ up = 0) j < soK V (¬ up = 0) p)) q k))
  | k, 0, a, q, h, _, _ => absurd h (Nat.not_lt_zero k)
  | 0, f + 1, a, q, _, hq, hk => by
    have hn := hv.1
    rw [mX6_sort_L35, if_pos (show zI r < zI q by rw [zI_lt (by omega) (by omega) (by omega) (by omega)]; omega)]
    simp only [nuT, Int.add_zero]
  | k + 1, f + 1, a, q, h, hq, hk => by
    obtain ⟨hn, hV, hG, hB⟩ := id hv
    have b1 := (hB q hq (by omega)).1
    have b2 := (hB p (by omega) (by omega)).1
    have yes := X6_sort_I hv hr hp (up := up) k f (a + 1) (q + 1) (by omega) (by omega) (by omega)
    have no := X6_sort_I hv hr hp (up := up) k f a (q + 1) (by omega) (by omega) (by omega)
    rw [mX6_sort_L35, if_neg (show ¬ zI r < zI q by rw [zI_lt (by omega) (by omega) (by omega) (by omega)]; omega)]
    have r1 : rd value 120 (zI q) = some (zI (V q)) := rd_A hV hq (by omega) (by omega) (by omega)
    have r2 : rd value 120 (zI p) = some (zI (V p)) := rd_A hV (by omega) (by omega) (by omega) (by omega)
    simp only [r1, r2, sob, zI_a1, zI_a0]
    simp (disch := omega) only [zI_le, zI_eq]
    simp only [nuT]
    by_cases c : up = 0
    · simp only [c, if_true, not_true_eq_false] at yes no ⊢
      by_cases d : V q ≤ V p
      · rw [if_pos d, sob, if_neg i0n]
        by_cases e : V q = V p
        · rw [if_neg (not_not_intro e)]
          by_cases g : p ≤ q
          · rw [if_pos g, no, if_neg (by rw [decide_eq_true_eq]; unfold soK vkT; rw [if_neg not_false, if_neg not_false]; omega), Int.zero_add]
          · rw [if_neg g, yes, if_pos (by rw [decide_eq_true_eq]; unfold soK vkT; rw [if_neg not_false, if_neg not_false]; omega), Int.add_assoc]
        · rw [if_pos e, no, if_neg (by rw [decide_eq_true_eq]; unfold soK vkT; rw [if_neg not_false, if_neg not_false]; omega), Int.zero_add]
      · rw [if_neg d, sob, if_pos i1, yes, if_pos (by rw [decide_eq_true_eq]; unfold soK vkT; rw [if_neg not_false, if_neg not_false]; omega), Int.add_assoc]
    · simp only [c, if_false, not_false_eq_true] at yes no ⊢
      by_cases d : V p ≤ V q
      · rw [if_pos d, sob, if_neg i0n]
        by_cases e : V q = V p
        · rw [if_neg (not_not_intro e)]
          by_cases g : p ≤ q
          · rw [if_pos g, no, if_neg (by rw [decide_eq_true_eq]; unfold soK vkT; rw [if_pos trivial, if_pos trivial]; omega), Int.zero_add]
          · rw [if_neg g, yes, if_pos (by rw [decide_eq_true_eq]; unfold soK vkT; rw [if_pos trivial, if_pos trivial]; omega), Int.add_assoc]
        · rw [if_pos e, no, if_neg (by rw [decide_eq_true_eq]; unfold soK vkT; rw [if_pos trivial, if_pos trivial]; omega), Int.zero_add]
      · rw [if_neg d, sob, if_pos i1, yes, if_pos (by rw [decide_eq_true_eq]; unfold soK vkT; rw [if_pos trivial, if_pos trivial]; omega), Int.add_assoc]
theorem X6_sort_O {value weight : FnT} {n l r : Int} {V G : Int → Int} {up : Int32} {s : Int → Int} (hv : Rv value weight n V G) (hl : 0 ≤ l) (hlr : l ≤ r) (hr : r < n) (hI : soI V (¬ up = 0) l r s) (hs : ∀ i j, l ≤ i → i < j → j ≤ r → soK V (¬ up = 0) (s i) < soK V (¬ up = 0) (s j)) : ∀ (k f : Nat) (p : Int) (tv tw : FnT) (U H : Int → Int), k < f → l ≤ p → r + 1 = p + k → Rt tv tw n U H → (∀ i, 0 ≤ i → i < n → (l ≤ i ∧ i ≤ r → s i < p → U i = V (s i) ∧ H i = G (s i)) ∧ (¬ (l ≤ i ∧ i ≤ r) → U i = V i ∧ H i = G i)) →
    ∃ tv' tw', mX6_sort_L23 value weight (zI l) (zI r) up f (zI p) tv tw = some (tv', tw') ∧ Rt tv' tw' n (fun i => V (s i)) (fun i => G (s i))
  | k, 0, p, tv, tw, U, H, h, _, _, _, _ => absurd h (Nat.not_lt_zero k)
  | 0, f + 1, p, tv, tw, U, H, _, hp, hk, h1, h2 => by
    have hn := h1.1
    rw [mX6_sort_L23, if_pos (show zI r < zI p by rw [zI_lt (by omega) (by omega) (by omega) (by omega)]; omega)]
    refine ⟨tv, tw, rfl, h1.eq (fun i g0 g1 => ?_)⟩
    obtain ⟨y1, y2⟩ := h2 i g0 g1
    by_cases c : l ≤ i ∧ i ≤ r
    · exact y1 c (by have := hI.1 i c.1 c.2; omega)
    · show U i = V (s i) ∧ H i = G (s i)
      rw [hI.2.2.2 i c]; exact y2 c
  | k + 1, f + 1, p, tv, tw, U, H, h, hp, hk, h1, h2 => by
    have hn := h1.1
    obtain ⟨j, j1, j2, j3⟩ := hI.2.1 p hp (by omega)
    have hc := soI_cnt hI hs (i := j) ⟨j1, j2⟩
    rw [j3] at hc
    have e0 := X6_sort_I (up := up) hv hr (p := p) (by omega) (r + 1 - l).toNat FU 0 l (by rw [FU_e]; omega) hl (by omega)
    rw [hc, Int.zero_add] at e0
    obtain ⟨e1, h4⟩ := X6_lies_z hv h1 (p := p) (q := j) (by omega) (by omega)
    rw [mX6_sort_L23, if_neg (show ¬ zI r < zI p by rw [zI_lt (by omega) (by omega) (by omega) (by omega)]; omega), show (0 : Int32) = zI 0 from rfl, e0, sob, zI_add, show l + (j - l) = j by omega, e1, sob, zI_a1]
    refine X6_sort_O hv hl hlr hr hI hs k f (p + 1) _ _ _ _ (by omega) (by omega) (by omega) h4 (fun i g0 g1 => ⟨fun c g2 => ?_, fun c => ?_⟩)
    · unfold pt
      by_cases e : i = j
      · rw [if_pos e, if_pos e, e, j3]; exact ⟨rfl, rfl⟩
      · rw [if_neg e, if_neg e]
        refine (h2 i g0 g1).1 c ?_
        rcases Int.lt_or_eq_of_le (show s i ≤ p by omega) with y | y
        · exact y
        · exfalso
          rcases Int.lt_or_le i j with z | z
          · have := hs i j c.1 z j2; rw [y, j3] at this; omega
          · have := hs j i j1 (by omega) c.2; rw [y, j3] at this; omega
    · unfold pt
      rw [if_neg (by omega), if_neg (by omega)]
      exact (h2 i g0 g1).2 c
theorem P_sort {row nx : RowT} {past : PasT} {value weight pv pw pm tv tw : FnT} {n h b : Int} {V G : Int → Int} {P : PsT} {fr tm th : Int32} (hB : Bst row past value weight pv pw pm n h V G P) (hb : 2 ≤ b ∧ b ≤ 20) (x1 x2 x3 : Int32) :
    EdP (mX5_sort (zI b) fr row nx past x1 x2 x3) (mX6_sort th value weight (zI n) (zI b) pv pw pm (zI h) fr tv tw tm x1 x2 x3) := by
  obtain ⟨l, hl, rfl⟩ := zI_ex x1
  obtain ⟨r, hr, rfl⟩ := zI_ex x2
  have hR := hB.1
  have hv := hB.2.1
  obtain ⟨hs, hn⟩ := hR.ok
  unfold mX5_sort mX6_sort
  rw [X2_hasSpan_z hs hn hl hr, X6_isSpan_z hn hl hr, sob, sob]
  by_cases c : 0 ≤ l ∧ l ≤ r ∧ r < n
  · rw [bz_t c, if_pos i1, if_pos i1]
    obtain ⟨t1, e1, h1⟩ := X2_take_z hR nx
    obtain ⟨t2, s, e2, h2, h3, h4⟩ := X2_order_z (up := x3) h1 c.1 c.2.1 c.2.2
    obtain ⟨tv1, tw1, e3, h5⟩ := X6_begins_z hv tv tw tm
    obtain ⟨tv2, tw2, e4, h6⟩ := X6_sort_O (up := x3) hv c.1 c.2.1 c.2.2 h3 h4 (r + 1 - l).toNat FU l tv1 tw1 V G (by rw [FU_e]; omega) (by omega) (by omega) h5 (fun i g0 g1 => ⟨fun y g2 => by have := h3.1 i y.1 y.2; omega, fun _ => ⟨rfl, rfl⟩⟩)
    rw [e1, sob, e2, sob, e3, sob]
    simp only []
    rw [e4, sob]
    exact E_same (nx0 := nx) (tv0 := tv) (tw0 := tw) (tm := tm) hB h2 h6 hb
  · rw [bz_f c, if_neg i0n, if_neg i0n]; exact EdP_no hB _
