/-! which word it is -/
theorem wd_ne : ∀ i : Nat, i < 8 → ∀ w : Nat, w < 8 → i ≠ w → (wlT i ≠ wlT w ∨ ∃ k : Nat, k < 8 ∧ (k : Int) < wlT i ∧ wdT i (k : Int) ≠ wdT w (k : Int)) := by decide +kernel
theorem s_isW {fe n s a : Int} {B : Int → Int} {tape : TapT} (hA : AtT tape fe n a B) (hs : tape.2.2.2.2.1 = zI s) (ht : tape.2.2.2.2.2.1 = 1) (h0 : 0 ≤ s ∧ s ≤ a) {w : Nat} (hw : w < 8) (hm : wmT B s a w) {i : Nat} (hi : i < 8) : mX4_isWord tape i = some (if i = w then 1 else 0) := by
  have b0 := hA.1
  rcases X4_isWord_z (i := i) (by omega) hA.2.1 hA.2.2.2.2.2 b0.2.2.2 hs hA.2.2.2.2.1 ht (by omega) with ⟨e, h⟩ | ⟨e, h⟩
  · by_cases c : i = w
    · rw [e, if_pos c]
    · exfalso
      rcases wd_ne i hi w hw c with g | ⟨k, _, g1, g2⟩
      · exact g (by have := h.1; have := hm.1; omega)
      · have e1 := h.2 k (by omega) g1
        have e2 := hm.2 k (by omega) (by have := h.1; have := hm.1; omega)
        exact g2 (by omega)
  · by_cases c : i = w
    · subst c; exact absurd hm h
    · rw [e, if_neg c]
