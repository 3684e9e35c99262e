/-! the tokens of a text, the class alone: blanks, a word, a number -/
/-- the tape at a, its text's end at n -/
def AtT (tape : TapT) (fe n a : Int) (B : Int → Int) : Prop := (0 ≤ a ∧ a ≤ n ∧ n ≤ fe ∧ fe ≤ 900) ∧ Ar tape.1 fe B ∧ tape.2.1 = zI fe ∧ tape.2.2.1 = zI n ∧ tape.2.2.2.1 = zI a ∧ ∀ i, 0 ≤ i → i < fe → 0 ≤ B i ∧ B i < 256
theorem s_blank {fe n : Int} {B : Int → Int} : ∀ (k f : Nat) (p : Int) (tape : TapT), k < f → AtT tape fe n p B → p + k ≤ n → (∀ i, p ≤ i → i < p + k → B i = 32) → (p + k < n → B (p + k) ≠ 10 ∧ B (p + k) ≠ 32) → mX4_advance_L0 f tape = some (tape.1, tape.2.1, tape.2.2.1, zI (p + k), tape.2.2.2.2)
  | k, 0, p, tape, h, _, _, _, _ => absurd h (Nat.not_lt_zero k)
  | 0, f + 1, p, tape, _, hA, hk, hb, hs => by
    obtain ⟨h0, h1, h2, h3, h4, h5⟩ := hA
    rw [mX4_advance_L0, h3, h4]
    by_cases c : n ≤ p
    · rw [if_pos (show zI n ≤ zI p by rw [zI_le (by omega) (by omega) (by omega) (by omega)]; exact c), show p + ((0 : Nat) : Int) = p by omega, ← h4]
      rw [← h3]
    · have hb5 := h5 p (by omega) (by omega)
      have hs' := hs (by omega)
      rw [show p + ((0 : Nat) : Int) = p by omega] at hs' ⊢
      rw [if_neg (show ¬ zI n ≤ zI p by rw [zI_le (by omega) (by omega) (by omega) (by omega)]; exact c), rd_A h1 (by omega) (by omega) (by omega) (by omega), sob, X4_isBlank_z (by omega), sob, bz_f (by omega), if_pos rfl, ← h4]
      rw [← h3]
  | k + 1, f + 1, p, tape, h, hA, hk, hb, hs => by
    obtain ⟨h0, h1, h2, h3, h4, h5⟩ := hA
    have hb5 := h5 p (by omega) (by omega)
    have hb1 := hb p (by omega) (by omega)
    rw [mX4_advance_L0, h3, h4, if_neg (show ¬ zI n ≤ zI p by rw [zI_le (by omega) (by omega) (by omega) (by omega)]; omega), rd_A h1 (by omega) (by omega) (by omega) (by omega), sob, X4_isBlank_z (by omega), sob, bz_t (by omega), if_neg i1, zI_a1]
    have ih := s_blank k f (p + 1) (tape.1, tape.2.1, zI n, zI (p + 1), tape.2.2.2.2.1, tape.2.2.2.2.2.1, tape.2.2.2.2.2.2) (by omega) ⟨by omega, h1, h2, rfl, rfl, h5⟩ (by omega) (fun i g0 g1 => hb i (by omega) (by omega)) (fun g => by rw [show p + 1 + (k : Int) = p + ((k + 1 : Nat) : Int) by omega]; exact hs (by omega))
    rw [show p + ((k + 1 : Nat) : Int) = p + 1 + (k : Int) by omega]
    exact ih
theorem s_word {fe n : Int} {B : Int → Int} : ∀ (k f : Nat) (p : Int) (tape : TapT), k < f → AtT tape fe n p B → p + k ≤ n → (∀ i, p ≤ i → i < p + k → 97 ≤ B i ∧ B i ≤ 122) → (p + k < n → ¬ (97 ≤ B (p + k) ∧ B (p + k) ≤ 122)) → mX4_readWord_L5 f tape = some (tape.1, tape.2.1, tape.2.2.1, zI (p + k), tape.2.2.2.2)
  | k, 0, p, tape, h, _, _, _, _ => absurd h (Nat.not_lt_zero k)
  | 0, f + 1, p, tape, _, hA, hk, hb, hs => by
    obtain ⟨h0, h1, h2, h3, h4, h5⟩ := hA
    rw [mX4_readWord_L5, h3, h4]
    by_cases c : n ≤ p
    · rw [if_pos (show zI n ≤ zI p by rw [zI_le (by omega) (by omega) (by omega) (by omega)]; exact c), show p + ((0 : Nat) : Int) = p by omega, ← h4]
      rw [← h3]
    · have hb5 := h5 p (by omega) (by omega)
      have hs' := hs (by omega)
      rw [show p + ((0 : Nat) : Int) = p by omega] at hs' ⊢
      rw [if_neg (show ¬ zI n ≤ zI p by rw [zI_le (by omega) (by omega) (by omega) (by omega)]; exact c), rd_A h1 (by omega) (by omega) (by omega) (by omega), sob, X4_isLetter_z (by omega), sob, bz_f hs', if_pos rfl, ← h4]
      rw [← h3]
  | k + 1, f + 1, p, tape, h, hA, hk, hb, hs => by
    obtain ⟨h0, h1, h2, h3, h4, h5⟩ := hA
    have hb5 := h5 p (by omega) (by omega)
    have hb1 := hb p (by omega) (by omega)
    rw [mX4_readWord_L5, h3, h4, if_neg (show ¬ zI n ≤ zI p by rw [zI_le (by omega) (by omega) (by omega) (by omega)]; omega), rd_A h1 (by omega) (by omega) (by omega) (by omega), sob, X4_isLetter_z (by omega), sob, bz_t hb1, if_neg i1, zI_a1]
    have ih := s_word k f (p + 1) (tape.1, tape.2.1, zI n, zI (p + 1), tape.2.2.2.2.1, tape.2.2.2.2.2.1, tape.2.2.2.2.2.2) (by omega) ⟨by omega, h1, h2, rfl, rfl, h5⟩ (by omega) (fun i g0 g1 => hb i (by omega) (by omega)) (fun g => by rw [show p + 1 + (k : Int) = p + ((k + 1 : Nat) : Int) by omega]; exact hs (by omega))
    rw [show p + ((k + 1 : Nat) : Int) = p + 1 + (k : Int) by omega]
    exact ih
