/-! the line of the ties; a word as the next token -/
theorem wd_let : ∀ w : Nat, w < 8 → (0 < wlT w ∧ wlT w ≤ 8) ∧ ∀ k : Nat, k < 8 → (k : Int) < wlT w → 97 ≤ wdT w (k : Int) ∧ wdT w (k : Int) ≤ 122 := by decide +kernel
theorem adv_wd {fe n p : Int} {B : Int → Int} {tape : TapT} (hA : AtT tape fe n p B) (j w : Nat) (hw : w < 8) (hb : ∀ i, p ≤ i → i < p + j → B i = 32) (hm : wmT B (p + j) (p + j + wlT w) w) (hn : p + j + wlT w < n) (hs : ¬ (97 ≤ B (p + j + wlT w) ∧ B (p + j + wlT w) ≤ 122)) : mX4_advance tape = some (tape.1, tape.2.1, tape.2.2.1, zI (p + j + wlT w), zI (p + j), 1, tape.2.2.2.2.2.2) := by
  obtain ⟨⟨g0, g1⟩, g2⟩ := wd_let w hw
  have e : (((wlT w).toNat : Nat) : Int) = wlT w := Int.toNat_of_nonneg (by omega)
  have := adv_word hA j (wlT w).toNat (by omega) (by omega) hb (fun i h0 h1 => by
    have h := hm.2 (i - (p + j)) (by omega) (by omega)
    rw [show p + j + (i - (p + j)) = i by omega] at h
    rw [h]
    have h3 := g2 (i - (p + j)).toNat (by omega) (by omega)
    rw [Int.toNat_of_nonneg (by omega)] at h3
    exact h3) (fun _ => by rw [e]; exact hs)
  rw [e] at this
  exact this
theorem s_ties {fe n a : Int} {B : Int → Int} {tape : TapT} {rdr : RdrT} {ti : Nat} (hti : ti < 4) (hA : AtT tape fe n a B) (hr : rdr.2.2.2.2.2.2 = 0) (b0 : B a = 32) (hm : wmT B (a + 1) (a + 1 + wlT (4 + ti)) (4 + ti)) (b2 : B (a + 1 + wlT (4 + ti)) = 59) (hn : a + 1 + wlT (4 + ti) < n) :
    ∃ sv nv, mX1_readTies rdr tape = some (1, (rdr.1, zI ti, rdr.2.2.1, rdr.2.2.2.1, rdr.2.2.2.2.1, rdr.2.2.2.2.2.1, 1), (tape.1, tape.2.1, tape.2.2.1, zI (a + 1 + wlT (4 + ti) + 1), sv, 3, nv)) := by
  have h0 := hA.1
  obtain ⟨⟨g0, g1⟩, g2⟩ := wd_let (4 + ti) (by omega)
  have e1 := adv_wd hA 1 (4 + ti) (by omega) (fun i h1 h2 => by rw [show i = a by omega]; exact b0) hm hn (by show ¬ (97 ≤ B (a + 1 + wlT (4 + ti)) ∧ _); rw [b2]; omega)
  obtain ⟨m, hmm⟩ : ∃ m : Int, tape.2.2.2.2.2.2 = zI m := ⟨_, (zI_of _).symm⟩
  have hA2 : AtT (tape.1, tape.2.1, tape.2.2.1, zI (a + 1 + wlT (4 + ti)), zI (a + 1), 1, tape.2.2.2.2.2.2) fe n (a + 1 + wlT (4 + ti)) B := ⟨by omega, hA.2.1, hA.2.2.1, hA.2.2.2.1, rfl, hA.2.2.2.2.2⟩
  have e2 := adv_semi hA2 0 (by omega) (fun j g0 g1 => by omega) (by rw [show a + 1 + wlT (4 + ti) + ((0 : Nat) : Int) = a + 1 + wlT (4 + ti) by omega]; exact b2)
  have eW : ∀ i, i < 8 → mX4_isWord (tape.1, tape.2.1, tape.2.2.1, zI (a + 1 + wlT (4 + ti)), zI (a + 1), 1, tape.2.2.2.2.2.2) i = some (if i = 4 + ti then 1 else 0) := fun i hi => s_isW hA2 rfl rfl (by omega) (by omega) hm hi
  have e3 : mX1_tiesNamed (tape.1, tape.2.1, tape.2.2.1, zI (a + 1 + wlT (4 + ti)), zI (a + 1), 1, tape.2.2.2.2.2.2) = some (zI ti) := by
    unfold mX1_tiesNamed
    rcases (show ti = 0 ∨ ti = 1 ∨ ti = 2 ∨ ti = 3 by omega) with rfl | rfl | rfl | rfl
    · rw [show mX4_isWord (tape.1, tape.2.1, tape.2.2.1, zI (a + 1 + wlT (4 + 0)), zI (a + 1), 1, tape.2.2.2.2.2.2) 4 = some 1 from eW 4 (by omega), sob]; rfl
    · rw [show mX4_isWord (tape.1, tape.2.1, tape.2.2.1, zI (a + 1 + wlT (4 + 1)), zI (a + 1), 1, tape.2.2.2.2.2.2) 4 = some 0 from eW 4 (by omega), sob, if_pos rfl, show mX4_isWord (tape.1, tape.2.1, tape.2.2.1, zI (a + 1 + wlT (4 + 1)), zI (a + 1), 1, tape.2.2.2.2.2.2) 5 = some 1 from eW 5 (by omega), sob]; rfl
    · rw [show mX4_isWord (tape.1, tape.2.1, tape.2.2.1, zI (a + 1 + wlT (4 + 2)), zI (a + 1), 1, tape.2.2.2.2.2.2) 4 = some 0 from eW 4 (by omega), sob, if_pos rfl, show mX4_isWord (tape.1, tape.2.1, tape.2.2.1, zI (a + 1 + wlT (4 + 2)), zI (a + 1), 1, tape.2.2.2.2.2.2) 5 = some 0 from eW 5 (by omega), sob, if_pos rfl, show mX4_isWord (tape.1, tape.2.1, tape.2.2.1, zI (a + 1 + wlT (4 + 2)), zI (a + 1), 1, tape.2.2.2.2.2.2) 6 = some 1 from eW 6 (by omega), sob]; rfl
    · rw [show mX4_isWord (tape.1, tape.2.1, tape.2.2.1, zI (a + 1 + wlT (4 + 3)), zI (a + 1), 1, tape.2.2.2.2.2.2) 4 = some 0 from eW 4 (by omega), sob, if_pos rfl, show mX4_isWord (tape.1, tape.2.1, tape.2.2.1, zI (a + 1 + wlT (4 + 3)), zI (a + 1), 1, tape.2.2.2.2.2.2) 5 = some 0 from eW 5 (by omega), sob, if_pos rfl, show mX4_isWord (tape.1, tape.2.1, tape.2.2.1, zI (a + 1 + wlT (4 + 3)), zI (a + 1), 1, tape.2.2.2.2.2.2) 6 = some 0 from eW 6 (by omega), sob, if_pos rfl, show mX4_isWord (tape.1, tape.2.1, tape.2.2.1, zI (a + 1 + wlT (4 + 3)), zI (a + 1), 1, tape.2.2.2.2.2.2) 7 = some 1 from eW 7 (by omega), sob]; rfl
  unfold mX1_readTies
  rw [if_pos hr, show mX4_advance tape = some (tape.1, tape.2.1, tape.2.2.1, zI (a + 1 + wlT (4 + ti)), zI (a + 1), 1, tape.2.2.2.2.2.2) from e1, sob, e3, sob, if_pos (show ¬ zI (ti : Int) = (-1) by rw [z_m1, zI_eq (by omega) (by omega) (by omega) (by omega)]; omega), e2, sob]
  refine ⟨zI (a + 1 + wlT (4 + ti) + ((0 : Nat) : Int)), tape.2.2.2.2.2.2, ?_⟩
  rw [show a + 1 + wlT (4 + ti) + ((0 : Nat) : Int) + 1 = a + 1 + wlT (4 + ti) + 1 by omega]
