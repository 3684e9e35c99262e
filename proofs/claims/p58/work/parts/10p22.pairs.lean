/-! PURE ROWS. Which pairs are made new: both count alike -/
/-- whether one of k places from p on has another value, or was none -/
def ttT (n : Int) (V V2 : Int → Int) : Int → Nat → Bool
  | _, 0 => false
  | p, k + 1 => (decide (n ≤ p) || !decide (V2 p = V p)) || ttT n V V2 (p + 1) k
def tcT (b n : Int) (V : Int → Int) (n2 : Int) (V2 : Int → Int) (j : Int) : Bool := ttT n V V2 (j * b) (blE n2 b j - j * b).toNat || decide (blE n2 b j < blE n b j)
theorem X2_isOtherThan_z {nx row : RowT} {n n2 p : Int} {V G V2 G2 : Int → Int} (hR : Rw row n V G) (hN : Rw nx n2 V2 G2) (hp : 0 ≤ p ∧ p < n2) : mX2_isOtherThan nx row (zI p) = some (bz ((decide (n ≤ p) || !decide (V2 p = V p)) = true)) := by
  obtain ⟨hn, hs, hV, hG, hB⟩ := hR
  obtain ⟨hn2, hs2, hV2, hG2, hB2⟩ := hN
  have b2 := (hB2 p hp.1 hp.2).1
  unfold mX2_isOtherThan
  rw [hs]
  by_cases c : n ≤ p
  · rw [if_pos (show zI n ≤ zI p by rw [zI_le (by omega) (by omega) (by omega) (by omega)]; exact c), bz_t (by simp [c])]
  · have b1 := (hB p hp.1 (by omega)).1
    rw [if_neg (show ¬ zI n ≤ zI p by rw [zI_le (by omega) (by omega) (by omega) (by omega)]; exact c), rd_A hV2 hp.1 hp.2 (by omega) (by omega), sob, rd_A hV hp.1 (by omega) (by omega) (by omega), sob]
    by_cases e : V2 p = V p
    · rw [if_pos (by rw [e]), bz_f (by simp [c, e])]
    · rw [if_neg (by rw [zI_eq (by omega) (by omega) (by omega) (by omega)]; exact e), bz_t (by simp [e])]
theorem blE_in {n b j : Int} (hn : 0 ≤ n ∧ n ≤ 120) (hb : 2 ≤ b ∧ b ≤ 20) (hj : 0 ≤ j ∧ j ≤ 120) : 0 ≤ blE n b j ∧ blE n b j ≤ n ∧ (j * b < n → j * b < blE n b j) ∧ blE n b j ≤ j * b + b := by
  have h := mul_in (j := j + 1) (by omega) hb
  have h0 := mul_in (j := j) (by omega) hb
  have k4 : (j + 1) * b = j * b + b := by rw [Int.add_mul, Int.one_mul]
  unfold blE
  by_cases q : (j + 1) * b < n
  · rw [if_pos q]; omega
  · rw [if_neg q]; omega
theorem X5_isTouched_L {nx row : RowT} {n n2 b j : Int} {V G V2 G2 : Int → Int} (hR : Rw row n V G) (hN : Rw nx n2 V2 G2) (hb : 2 ≤ b ∧ b ≤ 20) (hj : 0 ≤ j ∧ j < blN n2 b) : ∀ (k f : Nat) (p : Int), k < f → 0 ≤ p → blE n2 b j = p + k → mX5_isTouched_L16 (zI b) row nx (zI j) (zI (blE n2 b j)) f (zI p) = some (bz ((ttT n V V2 p k || decide (blE n2 b j < blE n b j)) = true))
  | k, 0, p, h, _, _ => absurd h (Nat.not_lt_zero k)
  | 0, f + 1, p, _, hp, hk => by
    have hn := hR.1
    have hn2 := hN.1
    have hbl := blN_in hn2 hb
    have e2 := blE_in hn2 hb (j := j) (by omega)
    have e1 := blE_in hn hb (j := j) (by omega)
    rw [mX5_isTouched_L16, if_pos (show zI (blE n2 b j) ≤ zI p by rw [zI_le (by omega) (by omega) (by omega) (by omega)]; omega), X5_blockEnd_z hR.2.1 hn hb (by omega), sob]
    by_cases c : blE n2 b j < blE n b j
    · rw [if_neg (show ¬ zI (blE n b j) ≤ zI (blE n2 b j) by rw [zI_le (by omega) (by omega) (by omega) (by omega)]; omega), bz_t (by simp [ttT, c])]
    · rw [if_pos (show zI (blE n b j) ≤ zI (blE n2 b j) by rw [zI_le (by omega) (by omega) (by omega) (by omega)]; omega), bz_f (by simp [ttT, c])]
  | k + 1, f + 1, p, h, hp, hk => by
    have hn := hR.1
    have hn2 := hN.1
    have hbl := blN_in hn2 hb
    have e2 := blE_in hn2 hb (j := j) (by omega)
    rw [mX5_isTouched_L16, if_neg (show ¬ zI (blE n2 b j) ≤ zI p by rw [zI_le (by omega) (by omega) (by omega) (by omega)]; omega), X2_isOtherThan_z hR hN (by omega), sob, zI_a1]
    have hte : ttT n V V2 p (k + 1) = ((decide (n ≤ p) || !decide (V2 p = V p)) || ttT n V V2 (p + 1) k) := rfl
    by_cases c : (decide (n ≤ p) || !decide (V2 p = V p)) = true
    · have ht1 : ttT n V V2 p (k + 1) = true := by rw [hte, c]; rfl
      rw [bz_t c, if_neg i1, bz_t (show (ttT n V V2 p (k + 1) || decide (blE n2 b j < blE n b j)) = true by rw [ht1]; rfl)]
    · have cf : (decide (n ≤ p) || !decide (V2 p = V p)) = false := by simpa using c
      have ht1 : ttT n V V2 p (k + 1) = ttT n V V2 (p + 1) k := by rw [hte, cf, Bool.false_or]
      rw [bz_f c, if_pos rfl, X5_isTouched_L hR hN hb hj k f (p + 1) (by omega) (by omega) (by omega), ht1]
theorem X5_isTouched_z {nx row : RowT} {n n2 b j : Int} {V G V2 G2 : Int → Int} (hR : Rw row n V G) (hN : Rw nx n2 V2 G2) (hb : 2 ≤ b ∧ b ≤ 20) (hj : 0 ≤ j ∧ j < blN n2 b) : mX5_isTouched (zI b) row nx (zI j) = some (bz (tcT b n V n2 V2 j = true)) := by
  have hn2 := hN.1
  have hbl := blN_in hn2 hb
  have e2 := blE_in hn2 hb (j := j) (by omega)
  have hm := mul_in (j := j) (by omega) hb
  have hlt := (blN_lt hn2 hb hj.1).mp hj.2
  unfold mX5_isTouched tcT
  rw [X5_blockEnd_z hN.2.1 hn2 hb (by omega), sob, zI_mul, X5_isTouched_L hR hN hb hj (blE n2 b j - j * b).toNat FU (j * b) (by rw [FU_e]; omega) (by omega) (by omega)]
/-- the reference's next row -/
def Rt (tv tw : Nat → Int32) (n : Int) (V G : Int → Int) : Prop := (0 ≤ n ∧ n ≤ 120) ∧ Ar tv n V ∧ Ar tw n G ∧ ∀ i, 0 ≤ i → i < n → (0 ≤ V i ∧ V i < 1000) ∧ 1 ≤ G i ∧ G i ≤ 9
theorem X6_isFresh_L {value weight tv tw : Nat → Int32} {n n2 b j : Int} {V G V2 G2 : Int → Int} (hv : Rv value weight n V G) (hN : Rt tv tw n2 V2 G2) (hb : 2 ≤ b ∧ b ≤ 20) (hj : 0 ≤ j ∧ j < blN n2 b) : ∀ (k f : Nat) (p : Int), k < f → 0 ≤ p → blE n2 b j = p + k → mX6_isFresh_L30 value (zI n) (zI b) tv (zI n2) (zI j) f (zI p) = some (bz (ttT n V V2 p k = true))
  | k, 0, p, h, _, _ => absurd h (Nat.not_lt_zero k)
  | 0, f + 1, p, _, hp, hk => by
    have hn2 := hN.1
    have hbl := blN_in hn2 hb
    have e2 := blE_in hn2 hb (j := j) (by omega)
    have hm := mul_in (j := j) (by omega) hb
    have k4 : (j + 1) * b = j * b + b := by rw [Int.add_mul, Int.one_mul]
    rw [mX6_isFresh_L30, zI_mul, zI_add, Int.mul_comm b j, bz_f (by simp [ttT])]
    by_cases c : j * b + b ≤ p
    · rw [if_pos (show zI (j * b + b) ≤ zI p by rw [zI_le (by omega) (by omega) (by omega) (by omega)]; exact c)]
    · rw [if_neg (show ¬ zI (j * b + b) ≤ zI p by rw [zI_le (by omega) (by omega) (by omega) (by omega)]; exact c)]
      have : n2 ≤ p := by
        have e := hk
        unfold blE at e
        by_cases q : (j + 1) * b < n2
        · rw [if_pos q] at e; omega
        · rw [if_neg q] at e; omega
      rw [if_pos (show zI n2 ≤ zI p by rw [zI_le (by omega) (by omega) (by omega) (by omega)]; exact this)]
  | k + 1, f + 1, p, h, hp, hk => by
    obtain ⟨hn, hV, hG, hB⟩ := id hv
    obtain ⟨hn2, hV2, hG2, hB2⟩ := id hN
    have hbl := blN_in hn2 hb
    have e2 := blE_in hn2 hb (j := j) (by omega)
    have hm := mul_in (j := j) (by omega) hb
    have b2 := (hB2 p hp (by omega)).1
    rw [mX6_isFresh_L30, zI_mul, zI_add, Int.mul_comm b j, if_neg (show ¬ zI (j * b + b) ≤ zI p by rw [zI_le (by omega) (by omega) (by omega) (by omega)]; omega), if_neg (show ¬ zI n2 ≤ zI p by rw [zI_le (by omega) (by omega) (by omega) (by omega)]; omega)]
    have hte : ttT n V V2 p (k + 1) = ((decide (n ≤ p) || !decide (V2 p = V p)) || ttT n V V2 (p + 1) k) := rfl
    by_cases c : n ≤ p
    · rw [if_pos (show zI n ≤ zI p by rw [zI_le (by omega) (by omega) (by omega) (by omega)]; exact c), bz_t (by rw [hte]; simp [c])]
    · have b1 := (hB p hp (by omega)).1
      rw [if_neg (show ¬ zI n ≤ zI p by rw [zI_le (by omega) (by omega) (by omega) (by omega)]; exact c), rd_A hV2 hp (by omega) (by omega) (by omega), sob, rd_A hV hp (by omega) (by omega) (by omega), sob, zI_a1]
      by_cases e : V2 p = V p
      · have cf : (decide (n ≤ p) || !decide (V2 p = V p)) = false := by simp [c, e]
        have ht1 : ttT n V V2 p (k + 1) = ttT n V V2 (p + 1) k := by rw [hte, cf, Bool.false_or]
        rw [if_pos (by rw [e]), X6_isFresh_L hv hN hb hj k f (p + 1) (by omega) (by omega) (by omega), ht1]
      · rw [if_neg (by rw [zI_eq (by omega) (by omega) (by omega) (by omega)]; exact e), bz_t (by rw [hte]; simp [e])]
theorem X6_isFresh_z {value weight tv tw : Nat → Int32} {n n2 b j : Int} {V G V2 G2 : Int → Int} (hv : Rv value weight n V G) (hN : Rt tv tw n2 V2 G2) (hb : 2 ≤ b ∧ b ≤ 20) (hj : 0 ≤ j ∧ j < blN n2 b) : mX6_isFresh value (zI n) (zI b) tv (zI n2) (zI j) = some (bz (tcT b n V n2 V2 j = true)) := by
  have hn := hv.1
  have hn2 := hN.1
  have hbl := blN_in hn2 hb
  have e2 := blE_in hn2 hb (j := j) (by omega)
  have e1 := blE_in hn hb (j := j) (by omega)
  have hm := mul_in (j := j) (by omega) hb
  have hlt := (blN_lt hn2 hb hj.1).mp hj.2
  have k4 : (j + 1) * b = j * b + b := by rw [Int.add_mul, Int.one_mul]
  have hc : b * j = j * b := Int.mul_comm b j
  unfold mX6_isFresh
  rw [X6_placesOf_z hn2 hb (by omega), sob, X6_placesOf_z hn hb (by omega), sob, hc]
  have q2 : (if n2 - j * b ≤ b then (if 0 ≤ n2 - j * b then n2 - j * b else 0) else b) = blE n2 b j - j * b := by
    unfold blE
    by_cases c : n2 - j * b ≤ b
    · rw [if_pos c, if_pos (show 0 ≤ n2 - j * b by omega), if_neg (show ¬ (j + 1) * b < n2 by omega)]
    · rw [if_neg c, if_pos (show (j + 1) * b < n2 by omega)]; omega
  have q1 : (if n - j * b ≤ b then (if 0 ≤ n - j * b then n - j * b else 0) else b) = if 0 ≤ n - j * b then blE n b j - j * b else 0 := by
    unfold blE
    by_cases c : n - j * b ≤ b
    · rw [if_pos c, if_neg (show ¬ (j + 1) * b < n by omega)]
    · rw [if_neg c, if_pos (show 0 ≤ n - j * b by omega), if_pos (show (j + 1) * b < n by omega)]; omega
  rw [q2, q1]
  unfold tcT
  by_cases c : blE n2 b j < blE n b j
  · rw [if_pos (show 0 ≤ n - j * b by omega), if_neg (show ¬ zI (blE n b j - j * b) ≤ zI (blE n2 b j - j * b) by rw [zI_le (by omega) (by omega) (by omega) (by omega)]; omega), bz_t (by simp [c])]
  · have hle : ∀ y, (y = blE n b j - j * b ∨ y = 0) → zI y ≤ zI (blE n2 b j - j * b) := fun y hy => by
      have h3 := e2.2.2.1 hlt
      rcases hy with hy | hy
      · rw [hy, zI_le (by omega) (by omega) (by omega) (by omega)]; omega
      · rw [hy, zI_le (by omega) (by omega) (by omega) (by omega)]; omega
    have hif : zI (if 0 ≤ n - j * b then blE n b j - j * b else 0) ≤ zI (blE n2 b j - j * b) := by
      by_cases d : 0 ≤ n - j * b
      · rw [if_pos d]; exact hle _ (Or.inl rfl)
      · rw [if_neg d]; exact hle _ (Or.inr rfl)
    rw [if_pos hif, zI_mul, hc, X6_isFresh_L hv hN hb hj (blE n2 b j - j * b).toNat FU (j * b) (by rw [FU_e]; omega) (by omega) (by omega)]
    simp [c]
/-! the sums -/
def unF (T : Int → Bool) : Int → Int → Nat → Int
  | _, _, 0 => 0
  | j, w, k + 1 => (if T j then 0 else w + 1) + unF T (j + 1) (if T j then 0 else w + 1) k
def cmF (T : Int → Bool) : Int → Nat → Int
  | _, 0 => 0
  | j, k + 1 => if T j then 0 else 1 + cmF T (j + 1) k
def cmS (T : Int → Bool) : Int → Nat → Int
  | _, 0 => 0
  | j, k + 1 => cmF T j (k + 1) + cmS T (j + 1) k
def triF : Nat → Int
  | 0 => 0
  | k + 1 => (k + 1 : Nat) + triF k
def inF (T : Int → Bool) : Bool → Int → Nat → Int
  | _, _, 0 => 0
  | s, j, k + 1 => (if s || T j then 1 else 0) + inF T (s || T j) (j + 1) k
def ouF (T : Int → Bool) : Int → Nat → Int
  | _, 0 => 0
  | j, k + 1 => inF T false j (k + 1) + ouF T (j + 1) k
theorem unF_cm (T : Int → Bool) : ∀ (k : Nat) (j w : Int), unF T j w k = w * cmF T j k + cmS T j k
  | 0, j, w => by simp [unF, cmF, cmS]
  | k + 1, j, w => by
    simp only [unF, cmS, cmF]
    by_cases c : T j = true
    · rw [if_pos c, if_pos c, unF_cm T k (j + 1) 0]; simp
    · rw [if_neg c, if_neg c, unF_cm T k (j + 1) (w + 1), Int.mul_add, Int.add_mul]; omega
theorem inF_true (T : Int → Bool) : ∀ (k : Nat) (j : Int), inF T true j k = k
  | 0, j => rfl
  | k + 1, j => by simp only [inF, Bool.true_or, if_true]; rw [inF_true T k (j + 1)]; omega
theorem inF_cm (T : Int → Bool) : ∀ (k : Nat) (j : Int), inF T false j k = k - cmF T j k
  | 0, j => by simp [inF, cmF]
  | k + 1, j => by
    simp only [inF, cmF, Bool.false_or]
    by_cases c : T j = true
    · rw [if_pos c, if_pos c, c, inF_true]; omega
    · have cf : T j = false := by simpa using c
      rw [if_neg c, if_neg c, cf, inF_cm T k (j + 1)]; omega
theorem ouF_cm (T : Int → Bool) : ∀ (k : Nat) (j : Int), ouF T j k + cmS T j k = triF k
  | 0, j => rfl
  | k + 1, j => by
    have ih := ouF_cm T k (j + 1)
    simp only [ouF, cmS, triF]
    rw [inF_cm]
    omega
theorem triF_2 : ∀ k : Nat, triF k * 2 = (k : Int) * (k + 1)
  | 0 => rfl
  | k + 1 => by
    have ih := triF_2 k
    simp only [triF]
    rw [Int.add_mul, ih]
    rw [show ((k + 1 : Nat) : Int) = (k : Int) + 1 by omega]
    rw [Int.add_mul (k : Int) 1 ((k : Int) + 1 + 1), Int.mul_add (k : Int) ((k : Int) + 1) 1]
    omega
theorem triF_div (k : Nat) : ((k : Int) * (k + 1)) / 2 = triF k := by
  rw [← triF_2]
  exact Int.mul_ediv_cancel _ (by omega)
theorem X5_pairs_L {nx row : RowT} {n n2 b : Int} {V G V2 G2 : Int → Int} (hR : Rw row n V G) (hN : Rw nx n2 V2 G2) (hb : 2 ≤ b ∧ b ≤ 20) : ∀ (k f : Nat) (u w j : Int), k < f → 0 ≤ j → blN n2 b = j + k → mX5_pairsTouched_L15 (zI b) row nx (zI (blN n2 b)) f (zI u) (zI w) (zI j) = some (zI (u + unF (tcT b n V n2 V2) j w k))
  | k, 0, u, w, j, h, _, _ => absurd h (Nat.not_lt_zero k)
  | 0, f + 1, u, w, j, _, hj, hk => by
    have hn2 := hN.1
    have hbl := blN_in hn2 hb
    rw [mX5_pairsTouched_L15, if_pos (show zI (blN n2 b) ≤ zI j by rw [zI_le (by omega) (by omega) (by omega) (by omega)]; omega)]
    simp only [unF, Int.add_zero]
  | k + 1, f + 1, u, w, j, h, hj, hk => by
    have hn2 := hN.1
    have hbl := blN_in hn2 hb
    rw [mX5_pairsTouched_L15, if_neg (show ¬ zI (blN n2 b) ≤ zI j by rw [zI_le (by omega) (by omega) (by omega) (by omega)]; omega), X5_isTouched_z hR hN hb (by omega), sob]
    simp only [zI_a1, zI_a0, zI_add, unF]
    by_cases c : tcT b n V n2 V2 j = true
    · rw [bz_t c, if_neg i1, if_pos c, show (0 : Int32) = zI 0 from rfl, X5_pairs_L hR hN hb k f u 0 (j + 1) (by omega) (by omega) (by omega), Int.zero_add]
    · rw [bz_f c, if_pos rfl, if_neg c, X5_pairs_L hR hN hb k f _ _ (j + 1) (by omega) (by omega) (by omega), Int.add_assoc]
theorem X5_pairsTouched_z {nx row : RowT} {n n2 b : Int} {V G V2 G2 : Int → Int} (hR : Rw row n V G) (hN : Rw nx n2 V2 G2) (hb : 2 ≤ b ∧ b ≤ 20) : mX5_pairsTouched (zI b) row nx = some (zI (ouF (tcT b n V n2 V2) 0 (blN n2 b).toNat)) := by
  have hn2 := hN.1
  have hbl := blN_in hn2 hb
  have htri := triF_div (blN n2 b).toNat
  have hou := ouF_cm (tcT b n V n2 V2) (blN n2 b).toNat 0
  have hun := unF_cm (tcT b n V n2 V2) (blN n2 b).toNat 0 0
  rw [show ((blN n2 b).toNat : Int) = blN n2 b by omega] at htri
  have hmul : 0 ≤ blN n2 b * (blN n2 b + 1) ∧ blN n2 b * (blN n2 b + 1) ≤ 14520 := by
    have h1 : 0 ≤ blN n2 b * (blN n2 b + 1) := Int.mul_nonneg (by omega) (by omega)
    have h2 : blN n2 b * (blN n2 b + 1) ≤ 120 * (blN n2 b + 1) := Int.mul_le_mul_of_nonneg_right (by omega) (by omega)
    omega
  unfold mX5_pairsTouched
  rw [X5_blocksOf_z hN.2.1 hn2 hb, sob, show (0 : Int32) = zI 0 from rfl, X5_pairs_L hR hN hb (blN n2 b).toNat FU 0 0 0 (by rw [FU_e]; omega) (by omega) (by omega), sob, zI_a1, zI_mul, show (2 : Int32) = zI 2 from rfl, idv_z (by omega) (by omega) (by omega) (by omega), sob, zI_sub, htri, hun]
  congr 2
  omega
theorem X6_pairs_I {value weight tv tw : Nat → Int32} {n n2 b : Int} {V G V2 G2 : Int → Int} (hv : Rv value weight n V G) (hN : Rt tv tw n2 V2 G2) (hb : 2 ≤ b ∧ b ≤ 20) : ∀ (k f : Nat) (a j : Int) (s : Bool), k < f → 0 ≤ j → blN n2 b = j + k → mX6_freshPairs_L32 value (zI n) (zI b) tv (zI n2) (zI (blN n2 b)) f (zI a) (bz (s = true)) (zI j) = some (zI (a + inF (tcT b n V n2 V2) s j k))
  | k, 0, a, j, s, h, _, _ => absurd h (Nat.not_lt_zero k)
  | 0, f + 1, a, j, s, _, hj, hk => by
    have hn2 := hN.1
    have hbl := blN_in hn2 hb
    rw [mX6_freshPairs_L32, if_pos (show zI (blN n2 b) ≤ zI j by rw [zI_le (by omega) (by omega) (by omega) (by omega)]; omega)]
    simp only [inF, Int.add_zero]
  | k + 1, f + 1, a, j, s, h, hj, hk => by
    have hn2 := hN.1
    have hbl := blN_in hn2 hb
    rw [mX6_freshPairs_L32, if_neg (show ¬ zI (blN n2 b) ≤ zI j by rw [zI_le (by omega) (by omega) (by omega) (by omega)]; omega), X6_isFresh_z hv hN hb (by omega), sob]
    simp only [zI_a1, zI_a0, inF]
    cases s with
    | true =>
      rw [bz_t rfl, if_pos i1, sob, if_neg i1, show (1 : Int32) = bz (true = true) from rfl, X6_pairs_I hv hN hb k f (a + 1) (j + 1) true (by omega) (by omega) (by omega)]
      simp only [Bool.true_or, if_true]
      rw [Int.add_assoc]
    | false =>
      rw [bz_f (show ¬ false = true by decide), if_neg i0n]
      simp only [Bool.false_or]
      by_cases c : tcT b n V n2 V2 j = true
      · rw [bz_t c, if_neg i1, sob, if_neg i1, if_pos c, c, show (1 : Int32) = bz (true = true) from rfl, X6_pairs_I hv hN hb k f (a + 1) (j + 1) true (by omega) (by omega) (by omega), Int.add_assoc]
      · have cf : tcT b n V n2 V2 j = false := by simpa using c
        rw [bz_f c, if_pos rfl, sob, if_pos rfl, if_neg c, cf, show (0 : Int32) = bz (false = true) from rfl, X6_pairs_I hv hN hb k f a (j + 1) false (by omega) (by omega) (by omega), Int.zero_add]
theorem X6_pairs_O {value weight tv tw : Nat → Int32} {n n2 b : Int} {V G V2 G2 : Int → Int} (hv : Rv value weight n V G) (hN : Rt tv tw n2 V2 G2) (hb : 2 ≤ b ∧ b ≤ 20) : ∀ (k f : Nat) (a j : Int), k < f → 0 ≤ j → blN n2 b = j + k → mX6_freshPairs_L21 value (zI n) (zI b) tv (zI n2) (zI (blN n2 b)) f (zI a) (zI j) = some (zI (a + ouF (tcT b n V n2 V2) j k))
  | k, 0, a, j, h, _, _ => absurd h (Nat.not_lt_zero k)
  | 0, f + 1, a, j, _, hj, hk => by
    have hn2 := hN.1
    have hbl := blN_in hn2 hb
    rw [mX6_freshPairs_L21, if_pos (show zI (blN n2 b) ≤ zI j by rw [zI_le (by omega) (by omega) (by omega) (by omega)]; omega)]
    simp only [ouF, Int.add_zero]
  | k + 1, f + 1, a, j, h, hj, hk => by
    have hn2 := hN.1
    have hbl := blN_in hn2 hb
    rw [mX6_freshPairs_L21, if_neg (show ¬ zI (blN n2 b) ≤ zI j by rw [zI_le (by omega) (by omega) (by omega) (by omega)]; omega), show (0 : Int32) = bz (false = true) from rfl, X6_pairs_I hv hN hb (k + 1) FU a j false (by rw [FU_e]; omega) (by omega) (by omega), sob, zI_a1, X6_pairs_O hv hN hb k f _ (j + 1) (by omega) (by omega) (by omega)]
    simp only [ouF]
    rw [Int.add_assoc]
theorem X6_freshPairs_z {value weight tv tw : Nat → Int32} {n n2 b : Int} {V G V2 G2 : Int → Int} (hv : Rv value weight n V G) (hN : Rt tv tw n2 V2 G2) (hb : 2 ≤ b ∧ b ≤ 20) : mX6_freshPairs value (zI n) (zI b) tv (zI n2) = some (zI (ouF (tcT b n V n2 V2) 0 (blN n2 b).toNat)) := by
  have hn2 := hN.1
  have hbl := blN_in hn2 hb
  have hidv : idv (zI n2 + zI b - 1) (zI b) = some (zI (blN n2 b)) := by rw [zI_add, zI_m1, idv_z (by omega) (by omega) (by omega) (by omega)]; rfl
  unfold mX6_freshPairs
  rw [hidv, sob, show (0 : Int32) = zI 0 from rfl, X6_pairs_O hv hN hb (blN n2 b).toNat FU 0 0 (by rw [FU_e]; omega) (by omega) (by omega), sob, Int.zero_add]
