/-! the line of a block -/
theorem s_block {fe n a : Int} {B : Int → Int} {tape : TapT} {rdr : RdrT} {bk : Nat} (hA : AtT tape fe n a B) (hr : rdr.2.2.2.2.2.1 = 0) (hbk : 2 ≤ bk ∧ bk ≤ 9) (b0 : B a = 32) (b1 : B (a + 1) = 48 + bk) (b2 : B (a + 2) = 59) (hn : a + 2 < n) :
    ∃ sv nv, mX1_readBlock rdr tape = some (1, (zI bk, rdr.2.1, rdr.2.2.1, rdr.2.2.2.1, rdr.2.2.2.2.1, 1, rdr.2.2.2.2.2.2), (tape.1, tape.2.1, tape.2.2.1, zI (a + 3), sv, 3, nv)) := by
  have h0 := hA.1
  have e1 := adv_num hA 1 1 (Or.inl rfl) (by omega) (fun j g0 g1 => by rw [show j = a by omega]; exact b0) (fun j g0 g1 => by rw [show j = a + 1 by omega, b1]; omega) (fun g => by rw [show a + ((1 : Nat) : Int) + ((1 : Nat) : Int) = a + 2 by omega, b2]; omega)
  have env : nuV B (a + ((1 : Nat) : Int)) 1 0 = (bk : Int) := by
    show 0 * 10 + (B (a + ((1 : Nat) : Int)) - 48) = _
    rw [show a + ((1 : Nat) : Int) = a + 1 by omega, b1]
    omega
  rw [env, show a + ((1 : Nat) : Int) + ((1 : Nat) : Int) = a + 2 by omega] at e1
  have hA2 : AtT (tape.1, tape.2.1, tape.2.2.1, zI (a + 2), zI (a + ((1 : Nat) : Int)), 2, zI bk) fe n (a + 2) B := hA.adv (k := 2) (by omega)
  have e2 := adv_semi hA2 0 (by omega) (fun j g0 g1 => by omega) (by rw [show a + 2 + ((0 : Nat) : Int) = a + 2 by omega]; exact b2)
  have e3 : ∀ rd : RdrT, mX1_isNumber rd (tape.1, tape.2.1, tape.2.2.1, zI (a + 2), zI (a + ((1 : Nat) : Int)), 2, zI bk) 2 20 = some (1, rd) := fun rd => by
    unfold mX1_isNumber
    dsimp only
    rw [if_pos rfl, if_neg (show ¬ zI (bk : Int) < 2 by rw [z_2, zI_lt (by omega) (by omega) (by omega) (by omega)]; omega), if_pos (show zI (bk : Int) ≤ 20 by rw [z_20, zI_le (by omega) (by omega) (by omega) (by omega)]; omega)]
  unfold mX1_readBlock
  rw [if_pos hr, e1, sob, e3, sob, if_pos i1, e2, sob]
  refine ⟨zI (a + 2 + ((0 : Nat) : Int)), zI bk, ?_⟩
  rw [show a + 2 + ((0 : Nat) : Int) + 1 = a + 3 by omega]
theorem s_end {fe n a : Int} {B : Int → Int} {tape : TapT} {rdr : RdrT} (ht : tape.2.2.2.2.2.1 = 3) {t2 : TapT} (h : mX4_advance tape = some t2) : mX1_readEnd rdr tape = some (1, rdr, t2) := by
  unfold mX1_readEnd
  rw [if_pos ht, h, sob]
