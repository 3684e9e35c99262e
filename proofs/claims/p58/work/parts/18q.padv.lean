/-! a number; the next token -/
def nuV (B : Int → Int) : Int → Nat → Int → Int
  | _, 0, a => a
  | p, k + 1, a => nuV B (p + 1) k (a * 10 + (B p - 48))
theorem s_num {fe n : Int} {B : Int → Int} : ∀ (k f : Nat) (p a : Int) (tape : TapT), k < f → AtT tape fe n p B → p + k ≤ n → (∀ i, p ≤ i → i < p + k → 48 ≤ B i ∧ B i ≤ 57) → (p + k < n → ¬ (48 ≤ B (p + k) ∧ B (p + k) ≤ 57)) → tape.2.2.2.2.2.2 = zI a → (0 ≤ a ∧ (k = 0 ∨ (k = 1 ∧ a ≤ 9) ∨ (k = 2 ∧ a = 0))) → mX4_readNumber_L10 f tape = some (tape.1, tape.2.1, tape.2.2.1, zI (p + k), tape.2.2.2.2.1, tape.2.2.2.2.2.1, zI (nuV B p k a))
  | k, 0, p, a, tape, h, _, _, _, _, _, _ => absurd h (Nat.not_lt_zero k)
  | 0, f + 1, p, a, tape, _, hA, hk, hb, hs, ha, hr => by
    obtain ⟨h0, h1, h2, h3, h4, h5⟩ := hA
    rw [mX4_readNumber_L10, h3, h4]
    by_cases c : n ≤ p
    · rw [if_pos (show zI n ≤ zI p by rw [zI_le (by omega) (by omega) (by omega) (by omega)]; exact c), show p + ((0 : Nat) : Int) = p by omega, nuV, ← h4, ← ha]
      rw [← h3]
    · have hb5 := h5 p (by omega) (by omega)
      have hs' := hs (by omega)
      rw [show p + ((0 : Nat) : Int) = p by omega] at hs' ⊢
      rw [if_neg (show ¬ zI n ≤ zI p by rw [zI_le (by omega) (by omega) (by omega) (by omega)]; exact c), rd_A h1 (by omega) (by omega) (by omega) (by omega), sob, X4_isDigit_z (by omega), sob, bz_f hs', if_pos rfl, nuV, ← h4, ← ha]
      rw [← h3]
  | k + 1, f + 1, p, a, tape, h, hA, hk, hb, hs, ha, hr => by
    obtain ⟨h0, h1, h2, h3, h4, h5⟩ := hA
    have hb5 := h5 p (by omega) (by omega)
    have hb1 := hb p (by omega) (by omega)
    rw [mX4_readNumber_L10, h3, h4, if_neg (show ¬ zI n ≤ zI p by rw [zI_le (by omega) (by omega) (by omega) (by omega)]; omega), rd_A h1 (by omega) (by omega) (by omega) (by omega), sob, X4_isDigit_z (by omega), sob, bz_t hb1, if_neg i1, sob, zI_a1, ha, show (10 : Int32) = zI 10 from rfl, zI_mul, show (48 : Int32) = zI 48 from rfl, zI_sub, zI_add, if_neg (show ¬ (100000 : Int32) < zI (a * 10 + (B p - 48)) by rw [show (100000 : Int32) = zI 100000 from rfl, zI_lt (by omega) (by omega) (by omega) (by omega)]; omega)]
    have ih := s_num k f (p + 1) (a * 10 + (B p - 48)) (tape.1, tape.2.1, zI n, zI (p + 1), tape.2.2.2.2.1, tape.2.2.2.2.2.1, zI (a * 10 + (B p - 48))) (by omega) ⟨by omega, h1, h2, rfl, rfl, h5⟩ (by omega) (fun i g0 g1 => hb i (by omega) (by omega)) (fun g => by rw [show p + 1 + (k : Int) = p + ((k + 1 : Nat) : Int) by omega]; exact hs (by omega)) rfl (by omega)
    rw [show p + ((k + 1 : Nat) : Int) = p + 1 + (k : Int) by omega, nuV]
    exact ih
section
variable {fe n p : Int} {B : Int → Int} {tape : TapT}
theorem adv_end (hA : AtT tape fe n p B) (j : Nat) (hj : p + j = n) (hb : ∀ i, p ≤ i → i < p + j → B i = 32) : mX4_advance tape = some (tape.1, tape.2.1, tape.2.2.1, zI n, zI n, 0, tape.2.2.2.2.2.2) := by
  have hA' := hA
  obtain ⟨h0, h1, h2, h3, h4, h5⟩ := hA'
  unfold mX4_advance
  rw [s_blank j FU p tape (by rw [FU_e]; omega) hA (by omega) hb (fun g => by omega), sob, hj]
  simp only []
  rw [h3, if_neg (show ¬ zI n < zI n by rw [zI_lt (by omega) (by omega) (by omega) (by omega)]; omega)]
theorem adv_word (hA : AtT tape fe n p B) (j k : Nat) (hk : 0 < k) (hj : p + j + k ≤ n) (hb : ∀ i, p ≤ i → i < p + j → B i = 32) (hw : ∀ i, p + j ≤ i → i < p + j + k → 97 ≤ B i ∧ B i ≤ 122) (hs : p + j + k < n → ¬ (97 ≤ B (p + j + k) ∧ B (p + j + k) ≤ 122)) : mX4_advance tape = some (tape.1, tape.2.1, tape.2.2.1, zI (p + j + k), zI (p + j), 1, tape.2.2.2.2.2.2) := by
  have hA' := hA
  obtain ⟨h0, h1, h2, h3, h4, h5⟩ := hA'
  have hw0 := hw (p + j) (by omega) (by omega)
  unfold mX4_advance
  rw [s_blank j FU p tape (by rw [FU_e]; omega) hA (by omega) hb (fun g => by omega), sob]
  simp only []
  rw [h3, if_pos (show zI (p + j) < zI n by rw [zI_lt (by omega) (by omega) (by omega) (by omega)]; omega), rd_A h1 (by omega) (by omega) (by omega) (by omega), sob, X4_isLetter_z (by omega), sob, bz_t hw0, if_neg i1]
  unfold mX4_readWord
  dsimp only
  rw [s_word k FU (p + j) (tape.1, tape.2.1, zI n, zI (p + j), zI (p + j), 1, tape.2.2.2.2.2.2) (by rw [FU_e]; omega) ⟨by omega, h1, h2, rfl, rfl, h5⟩ (by omega) hw hs, sob, sob]
theorem adv_num (hA : AtT tape fe n p B) (j k : Nat) (hk : k = 1 ∨ k = 2) (hj : p + j + k ≤ n) (hb : ∀ i, p ≤ i → i < p + j → B i = 32) (hw : ∀ i, p + j ≤ i → i < p + j + k → 48 ≤ B i ∧ B i ≤ 57) (hs : p + j + k < n → ¬ (48 ≤ B (p + j + k) ∧ B (p + j + k) ≤ 57)) : mX4_advance tape = some (tape.1, tape.2.1, tape.2.2.1, zI (p + j + k), zI (p + j), 2, zI (nuV B (p + j) k 0)) := by
  have hA' := hA
  obtain ⟨h0, h1, h2, h3, h4, h5⟩ := hA'
  have hw0 := hw (p + j) (by omega) (by omega)
  unfold mX4_advance
  rw [s_blank j FU p tape (by rw [FU_e]; omega) hA (by omega) hb (fun g => by omega), sob]
  simp only []
  rw [h3, if_pos (show zI (p + j) < zI n by rw [zI_lt (by omega) (by omega) (by omega) (by omega)]; omega), rd_A h1 (by omega) (by omega) (by omega) (by omega), sob, X4_isLetter_z (by omega), sob, bz_f (by omega), if_pos rfl, sob, X4_isDigit_z (by omega), sob, bz_t hw0, if_neg i1]
  unfold mX4_readNumber
  dsimp only
  rw [s_num k FU (p + j) 0 (tape.1, tape.2.1, zI n, zI (p + j), zI (p + j), 2, 0) (by rw [FU_e]; omega) ⟨by omega, h1, h2, rfl, rfl, h5⟩ (by omega) hw hs rfl (by omega), sob, sob]
theorem adv_semi (hA : AtT tape fe n p B) (j : Nat) (hj : p + j < n) (hb : ∀ i, p ≤ i → i < p + j → B i = 32) (hw : B (p + j) = 59) : mX4_advance tape = some (tape.1, tape.2.1, tape.2.2.1, zI (p + j + 1), zI (p + j), 3, tape.2.2.2.2.2.2) := by
  have hA' := hA
  obtain ⟨h0, h1, h2, h3, h4, h5⟩ := hA'
  unfold mX4_advance
  rw [s_blank j FU p tape (by rw [FU_e]; omega) hA (by omega) hb (fun g => by omega), sob]
  simp only []
  rw [h3, if_pos (show zI (p + j) < zI n by rw [zI_lt (by omega) (by omega) (by omega) (by omega)]; omega), rd_A h1 (by omega) (by omega) (by omega) (by omega), sob, X4_isLetter_z (by omega), sob, bz_f (by omega), if_pos rfl, sob, X4_isDigit_z (by omega), sob, bz_f (by omega), if_pos rfl, sob, hw, if_neg (show ¬ ¬ zI 59 = (59 : Int32) from not_not_intro rfl), sob, zI_a1]
end
