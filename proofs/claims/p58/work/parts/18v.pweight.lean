/-! the line of a weight -/
theorem s_weight {fe n a m : Int} {B : Int → Int} {tape : TapT} {rdr : RdrT} {rrow : RowT} {V G : Int → Int} {p w k : Nat} (hk : k = 1 ∨ k = 2) (hA : AtT tape fe n a B) (hR : Rw rrow m V G) (hp : (p : Int) < m) (hw : 1 ≤ w ∧ w ≤ 9) (b0 : B a = 32) (b1 : ∀ i, a + 1 ≤ i → i < a + 1 + k → 48 ≤ B i ∧ B i ≤ 57) (hnu : nuV B (a + 1) k 0 = p) (b2 : B (a + 1 + k) = 32) (b3 : B (a + 2 + k) = 48 + w) (b4 : B (a + 3 + k) = 59) (hn : a + 3 + k < n) :
    ∃ rrow' sv nv, mX1_readWeight rdr rrow tape = some (1, rdr, rrow', (tape.1, tape.2.1, tape.2.2.1, zI (a + 4 + k), sv, 3, nv)) ∧ Rw rrow' m V (pt G p w) := by
  have h0 := hA.1
  obtain ⟨hs, hm⟩ := hR.ok
  have e1 := adv_num hA 1 k hk (by omega) (fun j g0 g1 => by rw [show j = a by omega]; exact b0) b1 (fun g => by rw [show a + ((1 : Nat) : Int) + (k : Int) = a + 1 + k by omega, b2]; omega)
  rw [show a + ((1 : Nat) : Int) = a + 1 by omega, hnu] at e1
  have hA2 : AtT (tape.1, tape.2.1, tape.2.2.1, zI (a + 1 + k), zI (a + 1), 2, zI p) fe n (a + 1 + k) B := hA.adv (k := 2) (by omega)
  have e2 := adv_num hA2 1 1 (Or.inl rfl) (by omega) (fun j g0 g1 => by rw [show j = a + 1 + k by omega]; exact b2) (fun j g0 g1 => by rw [show j = a + 2 + k by omega, b3]; omega) (fun g => by rw [show a + 1 + (k : Int) + ((1 : Nat) : Int) + ((1 : Nat) : Int) = a + 3 + k by omega, b4]; omega)
  have env : nuV B (a + 1 + k + ((1 : Nat) : Int)) 1 0 = (w : Int) := by
    show 0 * 10 + (B (a + 1 + k + ((1 : Nat) : Int)) - 48) = _
    rw [show a + 1 + (k : Int) + ((1 : Nat) : Int) = a + 2 + k by omega, b3]
    omega
  rw [env, show a + 1 + (k : Int) + ((1 : Nat) : Int) + ((1 : Nat) : Int) = a + 3 + k by omega] at e2
  have hA3 : AtT (tape.1, tape.2.1, tape.2.2.1, zI (a + 3 + k), zI (a + 1 + k + ((1 : Nat) : Int)), 2, zI w) fe n (a + 3 + k) B := hA.adv (k := 2) (by omega)
  have e3 := adv_semi hA3 0 (by omega) (fun j g0 g1 => by omega) (by rw [show a + 3 + (k : Int) + ((0 : Nat) : Int) = a + 3 + k by omega]; exact b4)
  have e4 : mX1_isNumber rdr (tape.1, tape.2.1, tape.2.2.1, zI (a + 3 + k), zI (a + 1 + k + ((1 : Nat) : Int)), 2, zI w) 1 9 = some (1, rdr) := by
    unfold mX1_isNumber
    dsimp only
    rw [if_pos rfl, if_neg (show ¬ zI (w : Int) < 1 by rw [z_1, zI_lt (by omega) (by omega) (by omega) (by omega)]; omega), if_pos (show zI (w : Int) ≤ 9 by rw [z_9, zI_le (by omega) (by omega) (by omega) (by omega)]; omega)]
  unfold mX1_readWeight
  rw [e1, sob, if_neg (show ¬ ¬ (2 : Int32) = 2 from not_not_intro rfl), X2_has_z hs hm (by omega), sob, bz_t (by omega), if_pos i1, show mX4_advance _ = _ from e2, sob, e4, sob, if_pos i1, wr_in (by omega) (by omega) (by omega), sob, show mX4_advance _ = _ from e3, sob]
  refine ⟨_, zI (a + 3 + k + ((0 : Nat) : Int)), zI w, ?_, hR.setG (p := (p : Int)) (v := (w : Int)) (by omega) (by omega)⟩
  rw [show a + 3 + (k : Int) + ((0 : Nat) : Int) + 1 = a + 4 + k by omega]
