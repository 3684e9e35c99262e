/-! the line of the row, whole -/
theorem s_rowH {fe n a : Int} {B : Int → Int} {va : Nat → Nat} (hva : ∀ k, k < 20 → va k < 7) (rdr : RdrT) {tape : TapT} {f g : Nat → Int32} {m : Nat} (hm : m + 1 ≤ 20) (hA : AtT tape fe n a B) (hT : ∀ j : Nat, j < m + 1 → B (a + 2 * j) = 32 ∧ B (a + 2 * j + 1) = 48 + va j) (hn : a + 2 * (m + 1) < n) (hB : B (a + 2 * (m + 1)) = 59) :
    ∃ rrow' sv nv, mX1_readRow rdr (f, g, 0) tape = some (1, rdr, rrow', (tape.1, tape.2.1, tape.2.2.1, zI (a + 2 * (m + 1) + 1), sv, 3, nv)) ∧ Rw rrow' (m + 1 : Nat) (fun j => (va j.toNat : Int)) (fun _ => 1) := by
  have h0 := hA.1
  have t0 := hT 0 (by omega)
  rw [show a + 2 * ((0 : Nat) : Int) = a by omega] at t0
  have hv := hva 0 (by omega)
  have e1 := adv_num hA 1 1 (Or.inl rfl) (by omega) (fun j g0 g1 => by rw [show j = a by omega]; exact t0.1) (fun j g0 g1 => by rw [show j = a + 1 by omega, t0.2]; omega) (fun g => by
    by_cases c : m = 0
    · subst c
      rw [show a + ((1 : Nat) : Int) + ((1 : Nat) : Int) = a + 2 * (((0 : Nat) : Int) + 1) by omega, hB]; omega
    · have := (hT 1 (by omega)).1
      rw [show a + ((1 : Nat) : Int) + ((1 : Nat) : Int) = a + 2 * ((1 : Nat) : Int) by omega, this]; omega)
  have env : nuV B (a + ((1 : Nat) : Int)) 1 0 = (va 0 : Int) := by
    show 0 * 10 + (B (a + ((1 : Nat) : Int)) - 48) = _
    rw [show a + ((1 : Nat) : Int) = a + 1 by omega, t0.2]
    omega
  rw [env, show a + ((1 : Nat) : Int) + ((1 : Nat) : Int) = a + 2 by omega] at e1
  obtain ⟨r3, sv, nv, e3, h3⟩ := s_row hva rdr m FU 0 0 (a + 2) 0 0 (tape.1, tape.2.1, tape.2.2.1, zI (a + 2), zI (a + ((1 : Nat) : Int)), 2, zI (va 0)) (f, g, 0) (by rw [FU_e]; omega) (by omega) (by omega) (by omega) (hA.adv (k := 2) (by omega)) rfl rfl ⟨by omega, rfl, Ar_0 _ _, Ar_0 _ _, fun i g0 g1 => by omega⟩ (fun j hj => by
    have := hT (j + 1) (by omega)
    rw [show a + 2 + 2 * (j : Int) = a + 2 * ((j + 1 : Nat) : Int) by omega, show 0 + 1 + j = j + 1 by omega]
    exact this) (by omega) (by rw [show a + 2 + 2 * (m : Int) = a + 2 * ((m : Int) + 1) by omega]; exact hB)
  refine ⟨r3, sv, nv, ?_, by rw [show m + 1 = 0 + 1 + m by omega]; exact h3⟩
  unfold mX1_readRow
  rw [e1, sob, if_pos rfl, show (0 : Int32) = zI 0 from rfl, show a + 2 * ((m : Int) + 1) + 1 = a + 2 + 2 * (m : Int) + 1 by omega]
  exact e3
