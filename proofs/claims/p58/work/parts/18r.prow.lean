/-! a line of values -/
theorem AtT.adv {tape : TapT} {fe n a a2 s k m : Int} {B : Int → Int} (h : AtT tape fe n a B) (h2 : a ≤ a2 ∧ a2 ≤ n) : AtT (tape.1, tape.2.1, tape.2.2.1, zI a2, zI s, zI k, zI m) fe n a2 B := ⟨by have := h.1; omega, h.2.1, h.2.2.1, h.2.2.2.1, rfl, h.2.2.2.2.2⟩
theorem s_row {fe n : Int} {B : Int → Int} {va : Nat → Nat} (hva : ∀ k, k < 20 → va k < 7) (rdr : RdrT) : ∀ (m F i : Nat) (x2 a : Int) (s w : Int32) (tape : TapT) (rrow : RowT), m + 1 < F → i + 1 + m ≤ 20 → 0 ≤ x2 → x2 + m ≤ 60 → AtT tape fe n a B → tape.2.2.2.2.2.1 = 2 → tape.2.2.2.2.2.2 = zI (va i) → Rw rrow i (fun j => (va j.toNat : Int)) (fun _ => 1) →
    (∀ j : Nat, j < m → B (a + 2 * j) = 32 ∧ B (a + 2 * j + 1) = 48 + va (i + 1 + j)) → a + 2 * m < n → B (a + 2 * m) = 59 →
    ∃ rrow' sv nv, mX1_readRow_L21 F (zI x2) rdr rrow tape = some (1, rdr, rrow', (tape.1, tape.2.1, tape.2.2.1, zI (a + 2 * m + 1), sv, 3, nv)) ∧ Rw rrow' (i + 1 + m : Nat) (fun j => (va j.toNat : Int)) (fun _ => 1)
  | m, 0, i, x2, a, s, w, tape, rrow, h, _, _, _, _, _, _, _, _, _, _ => absurd h (Nat.not_lt_zero _)
  | m, F + 1, i, x2, a, s, w, tape, rrow, hF, hi, hx, hx2, hA, ht, hn, hR, hT, hm, hB => by
    have hv := hva i (by omega)
    obtain ⟨r1, e1, h1⟩ := X2_open_z hR (by omega) (p := (i : Int)) (v := (va i : Int)) (by omega) (by omega)
    have h2 : Rw r1 ((i + 1 : Nat) : Int) (fun j => (va j.toNat : Int)) (fun _ => 1) := by
      rw [show ((i + 1 : Nat) : Int) = (i : Int) + 1 by omega]
      exact h1.eq (fun j g0 g1 => by
        unfold inV
        by_cases c : j < i
        · rw [if_pos c, if_pos c]; exact ⟨rfl, rfl⟩
        · have e : j = i := by omega
          rw [if_neg c, if_neg c, if_pos e, if_pos e, e]
          exact ⟨rfl, rfl⟩)
    have b0 := hA.1
    rw [mX1_readRow_L21, if_neg (show ¬ (120 : Int32) < zI x2 by rw [z_120, zI_lt (by omega) (by omega) (by omega) (by omega)]; omega), ht, if_neg (show ¬ ¬ (2 : Int32) = 2 from not_not_intro rfl), hn, X5_isValue_z (by omega), sob, bz_t (by omega), if_neg i1, hR.2.1, if_pos (show zI (i : Int) < 120 by rw [z_120, zI_lt (by omega) (by omega) (by omega) (by omega)]; omega), e1, sob, zI_a1]
    cases m with
    | zero =>
      have e2 := adv_semi hA 0 (by omega) (fun j g0 g1 => by omega) (by rw [show a + ((0 : Nat) : Int) = a + 2 * ((0 : Nat) : Int) by omega]; exact hB)
      rw [e2, sob]
      obtain ⟨F2, rfl⟩ : ∃ F2, F = F2 + 1 := ⟨F - 1, by omega⟩
      rw [mX1_readRow_L21, if_neg (show ¬ (120 : Int32) < zI (x2 + 1) by rw [z_120, zI_lt (by omega) (by omega) (by omega) (by omega)]; omega), if_pos (show ¬ (3 : Int32) = 2 by decide)]
      refine ⟨r1, zI (a + ((0 : Nat) : Int)), tape.2.2.2.2.2.2, ?_, by rw [show i + 1 + 0 = i + 1 by omega]; exact h2⟩
      rw [show a + ((0 : Nat) : Int) + 1 = a + 2 * ((0 : Nat) : Int) + 1 by omega]
    | succ m =>
      have t0 := hT 0 (by omega)
      rw [show a + 2 * ((0 : Nat) : Int) = a by omega] at t0
      rw [Nat.add_zero] at t0
      have hv2 := hva (i + 1) (by omega)
      have e2 := adv_num hA 1 1 (Or.inl rfl) (by omega) (fun j g0 g1 => by rw [show j = a by omega]; exact t0.1) (fun j g0 g1 => by
        rw [show j = a + 1 by omega, t0.2]; omega) (fun g => by
        by_cases c : m = 0
        · subst c
          rw [show a + ((1 : Nat) : Int) + ((1 : Nat) : Int) = a + 2 * ((0 + 1 : Nat) : Int) by omega, hB]; omega
        · have := (hT 1 (by omega)).1
          rw [show a + ((1 : Nat) : Int) + ((1 : Nat) : Int) = a + 2 * ((1 : Nat) : Int) by omega, this]; omega)
      have env : nuV B (a + ((1 : Nat) : Int)) 1 0 = (va (i + 1) : Int) := by
        show 0 * 10 + (B (a + ((1 : Nat) : Int)) - 48) = _
        rw [show a + ((1 : Nat) : Int) = a + 1 by omega, t0.2]
        omega
      rw [env, show a + ((1 : Nat) : Int) + ((1 : Nat) : Int) = a + 2 by omega] at e2
      rw [e2, sob]
      obtain ⟨r3, sv, nv, e3, h3⟩ := s_row hva rdr m F (i + 1) (x2 + 1) (a + 2) s w (tape.1, tape.2.1, tape.2.2.1, zI (a + 2), zI (a + ((1 : Nat) : Int)), 2, zI (va (i + 1))) r1 (by omega) (by omega) (by omega) (by omega) (hA.adv (k := 2) (by omega)) rfl rfl h2 (fun j hj => by
        have := hT (j + 1) (by omega)
        rw [show a + 2 + 2 * (j : Int) = a + 2 * ((j + 1 : Nat) : Int) by omega, show i + 1 + 1 + j = i + 1 + (j + 1) by omega]
        exact this) (by omega) (by rw [show a + 2 + 2 * (m : Int) = a + 2 * ((m + 1 : Nat) : Int) by omega]; exact hB)
      refine ⟨r3, sv, nv, ?_, by rw [show i + 1 + (m + 1) = i + 1 + 1 + m by omega]; exact h3⟩
      rw [show a + 2 * ((m + 1 : Nat) : Int) + 1 = a + 2 + 2 * (m : Int) + 1 by omega]
      exact e3
