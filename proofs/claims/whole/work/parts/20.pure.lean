/-! pure rows: numbers -/
theorem lt_I (a b : Int32) : a < b ↔ a.toInt < b.toInt := Int32.lt_iff_toInt_lt
theorem le_I (a b : Int32) : a ≤ b ↔ a.toInt ≤ b.toInt := Int32.le_iff_toInt_le
theorem eq_I (a b : Int32) : a = b ↔ a.toInt = b.toInt := Int32.toInt_inj.symm
theorem rd_nI {f : Nat → Int32} {n i : Nat} (h : i < n) (hi : i < 2 ^ 31) : rd f n (nI i) = some (f i) := by
  unfold rd
  rw [nI_clamp hi, if_neg (fun z => by rcases z with z | z; exact nI_pos hi z; omega)]
def cnt (f : Nat → Int32) (v : Int32) : Nat → Nat → Nat
  | _, 0 => 0
  | a, k + 1 => (if f a = v then 1 else 0) + cnt f v (a + 1) k
theorem X2_howOften_L (t : RowT) (x1 x3 : Int32) : ∀ (k n c p : Nat), k < n → x3.toInt + 1 = p + k → p + k ≤ 120 → c + k < 2 ^ 31 → mX2_howOften_L6 t x1 x3 n (nI c) (nI p) = some (nI (c + cnt t.1 x1 p k))
  | k, 0, c, p, h, _, _, _ => absurd h (by omega)
  | 0, n + 1, c, p, _, hx, hp, hc => by
    rw [mX2_howOften_L6.eq_2, if_pos (by rw [lt_I, nI_toInt (by omega)]; omega)]
    rfl
  | k + 1, n + 1, c, p, h, hx, hp, hc => by
    rw [mX2_howOften_L6.eq_2, if_neg (by rw [lt_I, nI_toInt (by omega)]; omega), rd_nI (by omega) (by omega)]
    simp only [Option.bind_some, nI_1, cnt]
    by_cases hv : t.1 p = x1
    · rw [if_neg (by simp [hv]), X2_howOften_L t x1 x3 k n (c + 1) (p + 1) (by omega) (by omega) (by omega) (by omega), if_pos hv]
      congr 2; omega
    · rw [if_pos hv, X2_howOften_L t x1 x3 k n c (p + 1) (by omega) (by omega) (by omega) (by omega), if_neg hv]
      congr 2; omega
