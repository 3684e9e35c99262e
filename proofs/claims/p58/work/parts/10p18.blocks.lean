/-! blocks: b places each, N of them -/
def blN (n b : Int) : Int := (n + b - 1) / b
theorem blN_in {n b : Int} (hn : 0 ≤ n ∧ n ≤ 120) (hb : 2 ≤ b ∧ b ≤ 20) : (0 ≤ blN n b ∧ blN n b ≤ 120) ∧ blN n b * b ≤ n + b - 1 ∧ n ≤ blN n b * b := by
  unfold blN
  have h1 := Int.ediv_mul_le (n + b - 1) (show b ≠ 0 by omega)
  have h2 := Int.lt_ediv_add_one_mul_self (n + b - 1) (show 0 < b by omega)
  have h3 : 0 ≤ (n + b - 1) / b := Int.ediv_nonneg (by omega) (by omega)
  rw [Int.add_mul, Int.one_mul] at h2
  have h4 : (n + b - 1) / b * 2 ≤ (n + b - 1) / b * b := Int.mul_le_mul_of_nonneg_left hb.1 h3
  omega
theorem blN_lt {n b j : Int} (hn : 0 ≤ n ∧ n ≤ 120) (hb : 2 ≤ b ∧ b ≤ 20) (hj : 0 ≤ j) : j < blN n b ↔ j * b < n := by
  obtain ⟨h1, h2, h3⟩ := blN_in hn hb
  constructor
  · intro h
    have h4 : (j + 1) * b ≤ blN n b * b := Int.mul_le_mul_of_nonneg_right (by omega) (by omega)
    rw [Int.add_mul, Int.one_mul] at h4
    omega
  · intro h
    rcases Int.lt_or_le j (blN n b) with q | q
    · exact q
    · have h4 : blN n b * b ≤ j * b := Int.mul_le_mul_of_nonneg_right q (by omega)
      omega
theorem mul_in {j b : Int} (hj : 0 ≤ j ∧ j ≤ 121) (hb : 2 ≤ b ∧ b ≤ 20) : 0 ≤ j * b ∧ j * b ≤ 2420 ∧ j ≤ j * b := by
  have h1 : 0 ≤ j * b := Int.mul_nonneg hj.1 (by omega)
  have h2 : j * b ≤ j * 20 := Int.mul_le_mul_of_nonneg_left hb.2 hj.1
  have h3 : j * 2 ≤ j * b := Int.mul_le_mul_of_nonneg_left hb.1 hj.1
  omega
theorem X5_blocksOf_z {n b : Int} {row : RowT} (hs : row.2.2 = zI n) (hn : 0 ≤ n ∧ n ≤ 120) (hb : 2 ≤ b ∧ b ≤ 20) : mX5_blocksOf (zI b) row = some (zI (blN n b)) := by
  unfold mX5_blocksOf
  rw [hs, zI_add, zI_m1, idv_z (by omega) (by omega) (by omega) (by omega), sob]
  rfl
theorem X6_blocks_z {n b : Int} (hn : 0 ≤ n ∧ n ≤ 120) (hb : 2 ≤ b ∧ b ≤ 20) : mX6_blocks (zI n) (zI b) = some (zI (blN n b)) := by
  unfold mX6_blocks
  rw [zI_add, zI_m1, idv_z (by omega) (by omega) (by omega) (by omega), sob]
  rfl
/-- the end of a block: the place behind its last -/
def blE (n b j : Int) : Int := if (j + 1) * b < n then (j + 1) * b else n
theorem X5_blockEnd_z {n b j : Int} {row : RowT} (hs : row.2.2 = zI n) (hn : 0 ≤ n ∧ n ≤ 120) (hb : 2 ≤ b ∧ b ≤ 20) (hj : 0 ≤ j ∧ j ≤ 120) : mX5_blockEnd (zI b) row (zI j) = some (zI (blE n b j)) := by
  have h := mul_in (j := j + 1) (by omega) hb
  unfold mX5_blockEnd blE
  rw [hs, zI_a1, zI_mul]
  simp (disch := omega) only [zI_lt]
  by_cases c : (j + 1) * b < n
  · rw [if_pos c, if_pos c]
  · rw [if_neg c, if_neg c]
theorem X6_placesOf_z {n b j : Int} (hn : 0 ≤ n ∧ n ≤ 120) (hb : 2 ≤ b ∧ b ≤ 20) (hj : 0 ≤ j ∧ j ≤ 120) : mX6_placesOf (zI b) (zI j) (zI n) = some (zI (if n - b * j ≤ b then (if 0 ≤ n - b * j then n - b * j else 0) else b)) := by
  have h := mul_in (j := j) (by omega) hb
  rw [Int.mul_comm] at h
  unfold mX6_placesOf
  rw [zI_mul, zI_sub]
  simp (disch := omega) only [z_0, zI_le]
  by_cases c : n - b * j ≤ b
  · rw [if_pos c, if_pos c]
    by_cases d : 0 ≤ n - b * j
    · rw [if_pos d, if_pos d]
    · rw [if_neg d, if_neg d]
  · rw [if_neg c, if_neg c]
