/-! PURE ROWS. The rows of places: n places, V the values, G the weights; what reads them -/
theorem zI_ex (x : Int32) : ∃ l : Int, (-2147483648 ≤ l ∧ l < 2147483648) ∧ x = zI l := ⟨x.toInt, ⟨toI_lo x, toI_hi x⟩, (zI_of x).symm⟩
def bz (c : Prop) [Decidable c] : Int32 := if c then 1 else 0
theorem bz_0 {c : Prop} [Decidable c] : (bz c = zI 0) = ¬ c := propext b01
theorem bz_t {c : Prop} [Decidable c] (h : c) : bz c = 1 := if_pos h
theorem bz_f {c : Prop} [Decidable c] (h : ¬ c) : bz c = 0 := if_neg h
theorem i1 : ¬ (1 : Int32) = 0 := by decide
theorem i0n : ¬ ¬ (0 : Int32) = 0 := by decide
theorem bz1 {a c : Prop} [Decidable a] [Decidable c] (h : c ↔ ¬ a) : (if a then some (0 : Int32) else some 1) = some (bz c) := ah_tail (by rw [h]; exact ⟨fun z q => q z, fun z => Classical.byContradiction z⟩)
theorem bz2 {a b c : Prop} [Decidable a] [Decidable b] [Decidable c] (h : c ↔ ¬ a ∧ ¬ b) : (if a then some (0 : Int32) else if b then some 0 else some 1) = some (bz c) := by
  by_cases z : a
  · rw [if_pos z, bz_f (fun q => (h.mp q).1 z)]
  · rw [if_neg z]; exact bz1 ⟨fun q => (h.mp q).2, fun q => h.mpr ⟨z, q⟩⟩
theorem bz3 {a b d c : Prop} [Decidable a] [Decidable b] [Decidable d] [Decidable c] (h : c ↔ ¬ a ∧ ¬ b ∧ ¬ d) : (if a then some (0 : Int32) else if b then some 0 else if d then some 0 else some 1) = some (bz c) := by
  by_cases z : a
  · rw [if_pos z, bz_f (fun q => (h.mp q).1 z)]
  · rw [if_neg z]; exact bz2 ⟨fun q => (h.mp q).2, fun q => h.mpr ⟨z, q⟩⟩
def Rw (t : RowT) (n : Int) (V G : Int → Int) : Prop := (0 ≤ n ∧ n ≤ 120) ∧ t.2.2 = zI n ∧ Ar t.1 n V ∧ Ar t.2.1 n G ∧ ∀ i, 0 ≤ i → i < n → (0 ≤ V i ∧ V i < 1000) ∧ 1 ≤ G i ∧ G i ≤ 9
theorem X2_has_z {t : RowT} {n p : Int} (hs : t.2.2 = zI n) (hn : 0 ≤ n ∧ n ≤ 120) (hp : -2147483648 ≤ p ∧ p < 2147483648) : mX2_has t (zI p) = some (bz (0 ≤ p ∧ p < n)) := by
  unfold mX2_has
  rw [hs]
  refine bz2 ?_
  rw [z_0, zI_lt (by omega) (by omega) (by omega) (by omega), zI_le (by omega) (by omega) (by omega) (by omega)]
  omega
theorem X6_isPlace_z {n p : Int} (hn : 0 ≤ n ∧ n ≤ 120) (hp : -2147483648 ≤ p ∧ p < 2147483648) : mX6_isPlace (zI n) (zI p) = some (bz (0 ≤ p ∧ p < n)) := by
  unfold mX6_isPlace
  refine bz2 ?_
  rw [z_0, zI_lt (by omega) (by omega) (by omega) (by omega), zI_le (by omega) (by omega) (by omega) (by omega)]
  omega
theorem X2_hasSpan_z {t : RowT} {n l r : Int} (hs : t.2.2 = zI n) (hn : 0 ≤ n ∧ n ≤ 120) (hl : -2147483648 ≤ l ∧ l < 2147483648) (hr : -2147483648 ≤ r ∧ r < 2147483648) : mX2_hasSpan t (zI l) (zI r) = some (bz (0 ≤ l ∧ l ≤ r ∧ r < n)) := by
  unfold mX2_hasSpan
  rw [hs]
  refine bz3 ?_
  rw [z_0, zI_lt (by omega) (by omega) (by omega) (by omega), zI_lt (by omega) (by omega) (by omega) (by omega), zI_le (by omega) (by omega) (by omega) (by omega)]
  omega
theorem X6_isSpan_z {n l r : Int} (hn : 0 ≤ n ∧ n ≤ 120) (hl : -2147483648 ≤ l ∧ l < 2147483648) (hr : -2147483648 ≤ r ∧ r < 2147483648) : mX6_isSpan (zI n) (zI l) (zI r) = some (bz (0 ≤ l ∧ l ≤ r ∧ r < n)) := by
  unfold mX6_isSpan
  refine bz3 ?_
  rw [z_0, zI_lt (by omega) (by omega) (by omega) (by omega), zI_lt (by omega) (by omega) (by omega) (by omega), zI_le (by omega) (by omega) (by omega) (by omega)]
  omega
theorem X5_isValue_z {v : Int} (hv : -2147483648 ≤ v ∧ v < 2147483648) : mX5_isValue (zI v) = some (bz (0 ≤ v ∧ v < 1000)) := by
  unfold mX5_isValue
  refine bz2 ?_
  rw [z_0, z_1000, zI_lt (by omega) (by omega) (by omega) (by omega), zI_le (by omega) (by omega) (by omega) (by omega)]
  omega
theorem X6_isValue_z {v : Int} (hv : -2147483648 ≤ v ∧ v < 2147483648) : mX6_isValue (zI v) = some (bz (0 ≤ v ∧ v < 1000)) := X5_isValue_z hv
theorem X5_isBelow_z {w b : Int} (hw : -2147483648 ≤ w ∧ w < 2147483648) (hb : 0 ≤ b ∧ b < 100) : mX5_isBelow (zI w) (zI b) = some (bz (0 ≤ w ∧ w < b)) := by
  unfold mX5_isBelow
  refine bz2 ?_
  rw [z_0, zI_lt (by omega) (by omega) (by omega) (by omega), zI_le (by omega) (by omega) (by omega) (by omega)]
  omega
/-- how often v stands at k places from p on -/
def ocT (V : Int → Int) (v : Int) : Int → Nat → Int
  | _, 0 => 0
  | p, k + 1 => (if V p = v then 1 else 0) + ocT V v (p + 1) k
theorem ocT_in (V : Int → Int) (v : Int) : ∀ (k : Nat) (p : Int), 0 ≤ ocT V v p k ∧ ocT V v p k ≤ k
  | 0, p => by simp only [ocT]; omega
  | k + 1, p => by
    have := ocT_in V v k (p + 1)
    simp only [ocT]
    by_cases e : V p = v
    · rw [if_pos e]; omega
    · rw [if_neg e]; omega
theorem X2_howOften_L {t : RowT} {n : Int} {V G : Int → Int} (hR : Rw t n V G) {v r : Int} (hv : 0 ≤ v ∧ v < 1000) : ∀ (k f : Nat) (c p : Int), k < f → 0 ≤ p → 0 ≤ c → c + k ≤ 10000 → r + 1 = p + k → r < n → mX2_howOften_L6 t (zI v) (zI r) f (zI c) (zI p) = some (zI (c + ocT V v p k))
  | k, 0, c, p, h, _, _, _, _, _ => absurd h (Nat.not_lt_zero k)
  | 0, f + 1, c, p, _, hp, hc, hc2, hr, hn => by
    obtain ⟨hn2, hs, hV, hG, hB⟩ := hR
    simp (disch := omega) only [mX2_howOften_L6, zI_lt]
    rw [if_pos (by omega)]
    simp only [ocT, Int.add_zero]
  | k + 1, f + 1, c, p, h, hp, hc, hc2, hr, hn => by
    obtain ⟨hn2, hs, hV, hG, hB⟩ := id hR
    have hb := hB p hp (by omega)
    simp (disch := omega) only [mX2_howOften_L6, zI_lt, rd_A hV, sob, zI_eq, zI_a1]
    rw [if_neg (by omega), X2_howOften_L hR hv k f _ _ (by omega) (by omega) hc (by omega) (by omega) hn, X2_howOften_L hR hv k f _ _ (by omega) (by omega) (by omega) (by omega) (by omega) hn]
    simp only [ocT]
    by_cases e : V p = v
    · rw [if_neg (by simp [e]), if_pos e, Int.add_assoc]
    · rw [if_pos e, if_neg e, Int.zero_add]
theorem X2_howOften_z {t : RowT} {n : Int} {V G : Int → Int} (hR : Rw t n V G) {v l r : Int} (hv : 0 ≤ v ∧ v < 1000) (hl : 0 ≤ l) (hlr : l ≤ r + 1) (hr : r < n) : mX2_howOften t (zI v) (zI l) (zI r) = some (zI (ocT V v l (r + 1 - l).toNat)) := by
  have hn := hR.1
  unfold mX2_howOften
  rw [z_0, X2_howOften_L hR hv (r + 1 - l).toNat FU 0 l (by rw [FU_e]; omega) hl (by omega) (by omega) (by omega) hr, sob, Int.zero_add]
theorem X6_timesIn_L {f0 : Nat → Int32} {n : Int} {V : Int → Int} (hV : Ar f0 n V) (hn2 : 0 ≤ n ∧ n ≤ 120) (hB : ∀ i, 0 ≤ i → i < n → 0 ≤ V i ∧ V i < 1000) {v r : Int} (hv : 0 ≤ v ∧ v < 1000) : ∀ (k f : Nat) (c p : Int), k < f → 0 ≤ p → 0 ≤ c → c + k ≤ 10000 → r + 1 = p + k → r < n → mX6_timesIn_L6 f0 (zI r) (zI v) f (zI c) (zI p) = some (zI (c + ocT V v p k))
  | k, 0, c, p, h, _, _, _, _, _ => absurd h (Nat.not_lt_zero k)
  | 0, f + 1, c, p, _, hp, hc, hc2, hr, hn => by
    simp (disch := omega) only [mX6_timesIn_L6, zI_lt]
    rw [if_pos (by omega)]
    simp only [ocT, Int.add_zero]
  | k + 1, f + 1, c, p, h, hp, hc, hc2, hr, hn => by
    have hb := hB p hp (by omega)
    simp (disch := omega) only [mX6_timesIn_L6, zI_lt, rd_A hV, sob, zI_eq, zI_a1, zI_a0]
    rw [if_neg (by omega), X6_timesIn_L hV hn2 hB hv k f _ _ (by omega) (by omega) hc (by omega) (by omega) hn, X6_timesIn_L hV hn2 hB hv k f _ _ (by omega) (by omega) (by omega) (by omega) (by omega) hn]
    simp only [ocT]
    by_cases e : V p = v
    · rw [if_neg (by simp [e]), if_pos e, Int.add_assoc]
    · rw [if_pos e, if_neg e, Int.zero_add]
/-- the reference's row: as the class' -/
def Rv (value weight : Nat → Int32) (n : Int) (V G : Int → Int) : Prop := (0 ≤ n ∧ n ≤ 120) ∧ Ar value n V ∧ Ar weight n G ∧ ∀ i, 0 ≤ i → i < n → (0 ≤ V i ∧ V i < 1000) ∧ 1 ≤ G i ∧ G i ≤ 9
theorem X6_timesIn_z {value weight : Nat → Int32} {n : Int} {V G : Int → Int} (hR : Rv value weight n V G) {v l r : Int} (hv : 0 ≤ v ∧ v < 1000) (hl : 0 ≤ l) (hlr : l ≤ r + 1) (hr : r < n) : mX6_timesIn value (zI l) (zI r) (zI v) = some (zI (ocT V v l (r + 1 - l).toNat)) := by
  have hn := hR.1
  unfold mX6_timesIn
  rw [z_0, X6_timesIn_L hR.2.1 hn (fun i h0 h1 => (hR.2.2.2 i h0 h1).1) hv (r + 1 - l).toNat FU 0 l (by rw [FU_e]; omega) hl (by omega) (by omega) (by omega) hr, sob, Int.zero_add]
/-- the weights of v at k places from p on -/
def owT (V G : Int → Int) (v : Int) : Int → Nat → Int
  | _, 0 => 0
  | p, k + 1 => (if V p = v then G p else 0) + owT V G v (p + 1) k
theorem X2_weightOf_L {t : RowT} {n : Int} {V G : Int → Int} (hR : Rw t n V G) {v r : Int} (hv : 0 ≤ v ∧ v < 1000) : ∀ (k f : Nat) (c p : Int), k < f → 0 ≤ p → r + 1 = p + k → r < n → mX2_weightOf_L6 t (zI v) (zI r) f (zI c) (zI p) = some (zI (c + owT V G v p k))
  | k, 0, c, p, h, _, _, _ => absurd h (Nat.not_lt_zero k)
  | 0, f + 1, c, p, _, hp, hr, hn => by
    obtain ⟨hn2, hs, hV, hG, hB⟩ := hR
    simp (disch := omega) only [mX2_weightOf_L6, zI_lt]
    rw [if_pos (by omega)]
    simp only [owT, Int.add_zero]
  | k + 1, f + 1, c, p, h, hp, hr, hn => by
    obtain ⟨hn2, hs, hV, hG, hB⟩ := id hR
    have hb := hB p hp (by omega)
    simp (disch := omega) only [mX2_weightOf_L6, zI_lt, rd_A hV, rd_A hG, sob, zI_eq, zI_a1, zI_add]
    rw [if_neg (by omega), X2_weightOf_L hR hv k f _ _ (by omega) (by omega) (by omega) hn, X2_weightOf_L hR hv k f _ _ (by omega) (by omega) (by omega) hn]
    simp only [owT]
    by_cases e : V p = v
    · rw [if_neg (by simp [e]), if_pos e, Int.add_assoc]
    · rw [if_pos e, if_neg e, Int.zero_add]
theorem X2_weightOf_z {t : RowT} {n : Int} {V G : Int → Int} (hR : Rw t n V G) {v l r : Int} (hv : 0 ≤ v ∧ v < 1000) (hl : 0 ≤ l) (hlr : l ≤ r + 1) (hr : r < n) : mX2_weightOf t (zI v) (zI l) (zI r) = some (zI (owT V G v l (r + 1 - l).toNat)) := by
  have hn := hR.1
  unfold mX2_weightOf
  rw [z_0, X2_weightOf_L hR hv (r + 1 - l).toNat FU 0 l (by rw [FU_e]; omega) hl (by omega) hr, sob, Int.zero_add]
theorem X6_weightsOf_L {value weight : Nat → Int32} {n : Int} {V G : Int → Int} (hR : Rv value weight n V G) {v r : Int} (hv : 0 ≤ v ∧ v < 1000) : ∀ (k f : Nat) (c p : Int), k < f → 0 ≤ p → r + 1 = p + k → r < n → mX6_weightsOf_L6 value weight (zI r) (zI v) f (zI c) (zI p) = some (zI (c + owT V G v p k))
  | k, 0, c, p, h, _, _, _ => absurd h (Nat.not_lt_zero k)
  | 0, f + 1, c, p, _, hp, hr, hn => by
    obtain ⟨hn2, hV, hG, hB⟩ := hR
    simp (disch := omega) only [mX6_weightsOf_L6, zI_lt]
    rw [if_pos (by omega)]
    simp only [owT, Int.add_zero]
  | k + 1, f + 1, c, p, h, hp, hr, hn => by
    obtain ⟨hn2, hV, hG, hB⟩ := id hR
    have hb := hB p hp (by omega)
    simp (disch := omega) only [mX6_weightsOf_L6, zI_lt, rd_A hV, rd_A hG, sob, zI_eq, zI_a1, zI_a0, zI_add]
    rw [if_neg (by omega), X6_weightsOf_L hR hv k f _ _ (by omega) (by omega) (by omega) hn, X6_weightsOf_L hR hv k f _ _ (by omega) (by omega) (by omega) hn]
    simp only [owT]
    by_cases e : V p = v
    · rw [if_neg (by simp [e]), if_pos e, Int.add_assoc]
    · rw [if_pos e, if_neg e, Int.zero_add]
theorem X6_weightsOf_z {value weight : Nat → Int32} {n : Int} {V G : Int → Int} (hR : Rv value weight n V G) {v l r : Int} (hv : 0 ≤ v ∧ v < 1000) (hl : 0 ≤ l) (hlr : l ≤ r + 1) (hr : r < n) : mX6_weightsOf value weight (zI l) (zI r) (zI v) = some (zI (owT V G v l (r + 1 - l).toNat)) := by
  have hn := hR.1
  unfold mX6_weightsOf
  rw [z_0, X6_weightsOf_L hR hv (r + 1 - l).toNat FU 0 l (by rw [FU_e]; omega) hl (by omega) hr, sob, Int.zero_add]
/-- weights at k places from p on -/
def swT (G : Int → Int) : Int → Nat → Int
  | _, 0 => 0
  | p, k + 1 => G p + swT G (p + 1) k
theorem X2_allWeights_L {t : RowT} {n : Int} {V G : Int → Int} (hR : Rw t n V G) : ∀ (k f : Nat) (c p : Int), k < f → 0 ≤ p → n = p + k → mX2_allWeights_L4 t f (zI c) (zI p) = some (zI (c + swT G p k))
  | k, 0, c, p, h, _, _ => absurd h (Nat.not_lt_zero k)
  | 0, f + 1, c, p, _, hp, hn => by
    obtain ⟨hn2, hs, hV, hG, hB⟩ := hR
    simp (disch := omega) only [mX2_allWeights_L4, hs, zI_le]
    rw [if_pos (by omega)]
    simp only [swT, Int.add_zero]
  | k + 1, f + 1, c, p, h, hp, hn => by
    obtain ⟨hn2, hs, hV, hG, hB⟩ := id hR
    simp (disch := omega) only [mX2_allWeights_L4, hs, zI_le, rd_A hG, sob, zI_a1, zI_add]
    rw [if_neg (by omega), X2_allWeights_L hR k f _ _ (by omega) (by omega) (by omega)]
    simp only [swT, Int.add_assoc]
theorem X6_weightsIn_L {value weight : Nat → Int32} {n : Int} {V G : Int → Int} (hR : Rv value weight n V G) : ∀ (k f : Nat) (c p : Int), k < f → 0 ≤ p → n = p + k → mX6_weightsIn_L4 weight (zI n) f (zI c) (zI p) = some (zI (c + swT G p k))
  | k, 0, c, p, h, _, _ => absurd h (Nat.not_lt_zero k)
  | 0, f + 1, c, p, _, hp, hn => by
    obtain ⟨hn2, hV, hG, hB⟩ := hR
    simp (disch := omega) only [mX6_weightsIn_L4, zI_le]
    rw [if_pos (by omega)]
    simp only [swT, Int.add_zero]
  | k + 1, f + 1, c, p, h, hp, hn => by
    obtain ⟨hn2, hV, hG, hB⟩ := id hR
    simp (disch := omega) only [mX6_weightsIn_L4, zI_le, rd_A hG, sob, zI_a1, zI_add]
    rw [if_neg (by omega), X6_weightsIn_L hR k f _ _ (by omega) (by omega) (by omega)]
    simp only [swT, Int.add_assoc]
theorem X2_allWeights_z {t : RowT} {n : Int} {V G : Int → Int} (hR : Rw t n V G) : mX2_allWeights t = some (zI (swT G 0 n.toNat)) := by
  have hn := hR.1
  unfold mX2_allWeights
  rw [z_0, X2_allWeights_L hR n.toNat FU 0 0 (by rw [FU_e]; omega) (by omega) (by omega), sob, Int.zero_add]
theorem X6_weightsIn_z {value weight : Nat → Int32} {n : Int} {V G : Int → Int} (hR : Rv value weight n V G) : mX6_weightsIn weight (zI n) = some (zI (swT G 0 n.toNat)) := by
  have hn := hR.1
  unfold mX6_weightsIn
  rw [z_0, X6_weightsIn_L hR n.toNat FU 0 0 (by rw [FU_e]; omega) (by omega) (by omega), sob, Int.zero_add]
/-- the place of the c-th v among k places from p on; -2 -/
def nxT (V : Int → Int) (v : Int) : Int → Int → Nat → Int
  | _, _, 0 => -2
  | c, p, k + 1 => if V p = v then (if c = 1 then p else nxT V v (c - 1) (p + 1) k) else nxT V v c (p + 1) k
theorem nxT_in (V : Int → Int) (v : Int) : ∀ (k : Nat) (c p : Int), nxT V v c p k = -2 ∨ (p ≤ nxT V v c p k ∧ nxT V v c p k < p + k)
  | 0, c, p => Or.inl rfl
  | k + 1, c, p => by
    have h1 := nxT_in V v k (c - 1) (p + 1)
    have h2 := nxT_in V v k c (p + 1)
    simp only [nxT]
    by_cases e : V p = v
    · rw [if_pos e]
      by_cases d : c = 1
      · rw [if_pos d]; omega
      · rw [if_neg d]; omega
    · rw [if_neg e]; omega
theorem X2_nth_L {t : RowT} {n : Int} {V G : Int → Int} (hR : Rw t n V G) {v : Int} (hv : 0 ≤ v ∧ v < 1000) : ∀ (k f : Nat) (c p : Int), k < f → 0 ≤ p → n = p + k → 1 ≤ c → c < 2147483648 → mX2_nth_L6 t (zI v) f (zI c) (zI p) = some (zI (nxT V v c p k))
  | k, 0, c, p, h, _, _, _, _ => absurd h (Nat.not_lt_zero k)
  | 0, f + 1, c, p, _, hp, hn, _, _ => by
    obtain ⟨hn2, hs, hV, hG, hB⟩ := hR
    simp (disch := omega) only [mX2_nth_L6, hs, zI_le]
    rw [if_pos (by omega)]
    rfl
  | k + 1, f + 1, c, p, h, hp, hn, hc, hc2 => by
    obtain ⟨hn2, hs, hV, hG, hB⟩ := id hR
    have hb := hB p hp (by omega)
    simp (disch := omega) only [mX2_nth_L6, hs, zI_le, rd_A hV, sob, zI_eq, zI_a1, zI_d1]
    rw [if_neg (by omega), X2_nth_L hR hv k f c _ (by omega) (by omega) (by omega) hc hc2, z_0]
    simp (disch := omega) only [zI_eq]
    simp only [nxT]
    by_cases e : V p = v
    · rw [if_neg (by simp [e]), if_pos e]
      by_cases d : c = 1
      · rw [if_neg (by omega), if_pos d]
      · rw [if_pos (by omega), if_neg d, X2_nth_L hR hv k f _ _ (by omega) (by omega) (by omega) (by omega) (by omega)]
    · rw [if_pos e, if_neg e]
theorem X2_nth_z {t : RowT} {n : Int} {V G : Int → Int} (hR : Rw t n V G) {v l c : Int} (hv : 0 ≤ v ∧ v < 1000) (hl : 0 ≤ l) (hln : l ≤ n) (hc : 1 ≤ c) (hc2 : c < 2147483648) : mX2_nth t (zI v) (zI l) (zI c) = some (zI (nxT V v c l (n - l).toNat)) := by
  have hn := hR.1
  unfold mX2_nth
  rw [X2_nth_L hR hv (n - l).toNat FU c l (by rw [FU_e]; omega) hl (by omega) hc hc2]
theorem X2_from_z {t : RowT} {n : Int} {V G : Int → Int} (hR : Rw t n V G) {v l : Int} (hv : 0 ≤ v ∧ v < 1000) (hl : 0 ≤ l) (hln : l ≤ n) : mX2_from t (zI v) (zI l) = some (zI (nxT V v 1 l (n - l).toNat)) := by
  unfold mX2_from
  rw [z_1, X2_nth_z hR hv hl hln (by omega) (by omega), sob]
/-- the greatest place of v among p and k - 1 ahead of it; -2 -/
def pvT (V : Int → Int) (v : Int) : Int → Nat → Int
  | _, 0 => -2
  | p, k + 1 => if V p = v then p else pvT V v (p - 1) k
theorem pvT_in (V : Int → Int) (v : Int) : ∀ (k : Nat) (p : Int), pvT V v p k = -2 ∨ (p - k < pvT V v p k ∧ pvT V v p k ≤ p)
  | 0, p => Or.inl rfl
  | k + 1, p => by
    have h1 := pvT_in V v k (p - 1)
    simp only [pvT]
    by_cases e : V p = v
    · rw [if_pos e]; omega
    · rw [if_neg e]; omega
theorem X2_upTo_L {t : RowT} {n : Int} {V G : Int → Int} (hR : Rw t n V G) {v : Int} (hv : 0 ≤ v ∧ v < 1000) : ∀ (k f : Nat) (p : Int), k < f → p + 1 = k → p < n → mX2_upTo_L2 t (zI v) f (zI p) = some (zI (pvT V v p k))
  | k, 0, p, h, _, _ => absurd h (Nat.not_lt_zero k)
  | 0, f + 1, p, _, hp, hn => by
    obtain ⟨hn2, hs, hV, hG, hB⟩ := hR
    rw [mX2_upTo_L2, z_0, if_pos (by rw [zI_lt (by omega) (by omega) (by omega) (by omega)]; omega)]
    rfl
  | k + 1, f + 1, p, h, hp, hn => by
    obtain ⟨hn2, hs, hV, hG, hB⟩ := id hR
    have hb := hB p (by omega) (by omega)
    rw [mX2_upTo_L2, z_0, if_neg (by rw [zI_lt (by omega) (by omega) (by omega) (by omega)]; omega)]
    simp (disch := omega) only [rd_A hV, sob, zI_eq, zI_d1]
    rw [X2_upTo_L hR hv k f _ (by omega) (by omega) (by omega)]
    simp only [pvT]
    by_cases e : V p = v
    · rw [if_neg (by simp [e]), if_pos e]
    · rw [if_pos e, if_neg e]
theorem X2_upTo_z {t : RowT} {n : Int} {V G : Int → Int} (hR : Rw t n V G) {v p : Int} (hv : 0 ≤ v ∧ v < 1000) (hp : -1 ≤ p) (hpn : p < n) : mX2_upTo t (zI v) (zI p) = some (zI (pvT V v p (p + 1).toNat)) := by
  have hn := hR.1
  unfold mX2_upTo
  rw [X2_upTo_L hR hv (p + 1).toNat FU p (by rw [FU_e]; omega) (by omega) hpn]
