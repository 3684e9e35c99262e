/-! PURE ROWS. The text's tokens, both ways -/
theorem X4_isBlank_z {c : Int} (h : -1 ≤ c ∧ c < 256) : mX4_isBlank (zI c) = some (bz (c = 10 ∨ c = 32)) := by
  unfold mX4_isBlank
  rw [show (10 : Int32) = zI 10 from rfl, show (32 : Int32) = zI 32 from rfl]
  simp (disch := omega) only [zI_eq]
  by_cases a : c = 10
  · rw [if_pos a, bz_t (Or.inl a)]
  · rw [if_neg a]
    by_cases b : c = 32
    · rw [if_neg (not_not_intro b), bz_t (Or.inr b)]
    · rw [if_pos b, bz_f (by omega)]
theorem X4_isDigit_z {c : Int} (h : -1 ≤ c ∧ c < 256) : mX4_isDigit (zI c) = some (bz (48 ≤ c ∧ c ≤ 57)) := by
  unfold mX4_isDigit
  refine bz2 ?_
  rw [show (48 : Int32) = zI 48 from rfl, show (57 : Int32) = zI 57 from rfl, zI_lt (by omega) (by omega) (by omega) (by omega), zI_lt (by omega) (by omega) (by omega) (by omega)]
  omega
theorem X4_isLetter_z {c : Int} (h : -1 ≤ c ∧ c < 256) : mX4_isLetter (zI c) = some (bz (97 ≤ c ∧ c ≤ 122)) := by
  unfold mX4_isLetter
  refine bz2 ?_
  rw [show (97 : Int32) = zI 97 from rfl, show (122 : Int32) = zI 122 from rfl, zI_lt (by omega) (by omega) (by omega) (by omega), zI_lt (by omega) (by omega) (by omega) (by omega)]
  omega
theorem X6_isDigit_z {c : Int} (h : -1 ≤ c ∧ c < 256) : mX6_isDigit (zI c) = some (bz (48 ≤ c ∧ c ≤ 57)) := X4_isDigit_z h
theorem X6_isSmall_z {c : Int} (h : -1 ≤ c ∧ c < 256) : mX6_isSmall (zI c) = some (bz (97 ≤ c ∧ c ≤ 122)) := X4_isLetter_z h
/-- the bytes of both, n of them the text -/
def TxB (b5 b6 : FnT) (fe n : Int) (B : Int → Int) : Prop := (0 ≤ n ∧ n ≤ fe ∧ fe ≤ 900) ∧ Ar b5 fe B ∧ Ar b6 fe B ∧ ∀ i, 0 ≤ i → i < fe → 0 ≤ B i ∧ B i < 256
def heT (B : Int → Int) (n p : Int) : Int := if p < n then B p else -1
theorem heT_in {b5 b6 : FnT} {fe n p : Int} {B : Int → Int} (h : TxB b5 b6 fe n B) (hp : 0 ≤ p) : -1 ≤ heT B n p ∧ heT B n p < 256 := by
  unfold heT
  by_cases c : p < n
  · rw [if_pos c]; have := h.2.2.2 p hp (by have := h.1; omega); omega
  · rw [if_neg c]; omega
theorem X6_here_z {b5 b6 : FnT} {fe n p : Int} {B : Int → Int} (h : TxB b5 b6 fe n B) (hp : 0 ≤ p ∧ p ≤ 900) : mX6_here b6 (zI n) (zI p) = some (zI (heT B n p)) := by
  have hn := h.1
  unfold mX6_here heT
  by_cases c : p < n
  · rw [if_neg (show ¬ zI n ≤ zI p by rw [zI_le (by omega) (by omega) (by omega) (by omega)]; omega), rd_A h.2.2.1 hp.1 (by omega) (by omega) (by omega), sob, if_pos c]
  · rw [if_pos (show zI n ≤ zI p by rw [zI_le (by omega) (by omega) (by omega) (by omega)]; omega), if_neg c]
    rfl
/-- blanks -/
theorem X46_blank {b6 : FnT} {fe n : Int} {B : Int → Int} : ∀ (k f f' : Nat) (p : Int) (tape : TapT), TxB tape.1 b6 fe n B → k < f → k < f' → 0 ≤ p → n = p + k → tape.2.2.1 = zI n → tape.2.2.2.1 = zI p →
    ∃ q, mX4_advance_L0 f tape = some (tape.1, tape.2.1, tape.2.2.1, zI q, tape.2.2.2.2) ∧ mX6_token_L0 b6 (zI n) f' (zI p) = some (zI q) ∧ p ≤ q ∧ q ≤ n ∧ (q < n → B q ≠ 10 ∧ B q ≠ 32)
  | k, 0, f', p, tape, _, h, _, _, _, _, _ => absurd h (Nat.not_lt_zero k)
  | k, f + 1, 0, p, tape, _, _, h, _, _, _, _ => absurd h (Nat.not_lt_zero k)
  | 0, f + 1, f' + 1, p, tape, hX, _, _, hp, hk, he, ha => by
    have hn := hX.1
    have hh : heT B n p = -1 := by unfold heT; rw [if_neg (by omega)]
    rw [mX4_advance_L0, if_pos (show tape.2.2.1 ≤ tape.2.2.2.1 by rw [he, ha, zI_le (by omega) (by omega) (by omega) (by omega)]; omega)]
    refine ⟨p, by rw [← ha], ?_, by omega, by omega, by omega⟩
    rw [mX6_token_L0, X6_here_z hX (by omega), hh, sob, if_neg (by decide), sob, if_pos (by decide)]
  | k + 1, f + 1, f' + 1, p, tape, hX, h, h', hp, hk, he, ha => by
    have hn := hX.1
    have hb := hX.2.2.2 p hp (by omega)
    have hh : heT B n p = B p := by unfold heT; rw [if_pos (by omega)]
    rw [mX4_advance_L0, if_neg (show ¬ tape.2.2.1 ≤ tape.2.2.2.1 by rw [he, ha, zI_le (by omega) (by omega) (by omega) (by omega)]; omega), ha, rd_A hX.2.1 hp (by omega) (by omega) (by omega), sob, X4_isBlank_z (by omega), sob]
    rw [mX6_token_L0, X6_here_z hX (by omega), hh, sob, sob, show (10 : Int32) = zI 10 from rfl, show (32 : Int32) = zI 32 from rfl]
    simp (disch := omega) only [zI_eq, zI_a1]
    obtain ⟨q, g1, g2, g3, g4, g5⟩ := X46_blank k f f' (p + 1) (tape.1, tape.2.1, tape.2.2.1, zI (p + 1), tape.2.2.2.2) hX (by omega) (by omega) (by omega) (by omega) he rfl
    by_cases c : B p = 10 ∨ B p = 32
    · rw [bz_t c, if_neg i1]
      refine ⟨q, g1, ?_, by omega, g4, g5⟩
      rcases c with c | c
      · rw [if_pos c]; exact g2
      · rw [if_neg (show ¬ B p = 10 by omega), if_neg (not_not_intro c)]; exact g2
    · rw [bz_f c, if_pos rfl, if_neg (show ¬ B p = 10 by omega), if_pos (show ¬ B p = 32 by omega)]
      exact ⟨p, by rw [← ha], rfl, by omega, by omega, fun _ => by omega⟩
/-- letters -/
theorem X46_word {b6 : FnT} {fe n : Int} {B : Int → Int} : ∀ (k f f' : Nat) (p : Int) (tape : TapT), TxB tape.1 b6 fe n B → k < f → k < f' → 0 ≤ p → n = p + k → tape.2.2.1 = zI n → tape.2.2.2.1 = zI p →
    ∃ q, mX4_readWord_L5 f tape = some (tape.1, tape.2.1, tape.2.2.1, zI q, tape.2.2.2.2) ∧ mX6_token_L64 b6 (zI n) f' (zI p) = some (zI q) ∧ p ≤ q ∧ q ≤ n ∧ (p < n → 97 ≤ B p ∧ B p ≤ 122 → p < q)
  | k, 0, f', p, tape, _, h, _, _, _, _, _ => absurd h (Nat.not_lt_zero k)
  | k, f + 1, 0, p, tape, _, _, h, _, _, _, _ => absurd h (Nat.not_lt_zero k)
  | 0, f + 1, f' + 1, p, tape, hX, _, _, hp, hk, he, ha => by
    have hn := hX.1
    have hh : heT B n p = -1 := by unfold heT; rw [if_neg (by omega)]
    rw [mX4_readWord_L5, if_pos (show tape.2.2.1 ≤ tape.2.2.2.1 by rw [he, ha, zI_le (by omega) (by omega) (by omega) (by omega)]; omega)]
    refine ⟨p, by rw [← ha], ?_, by omega, by omega, by omega⟩
    rw [mX6_token_L64, X6_here_z hX (by omega), hh, sob, X6_isSmall_z (by omega), sob, bz_f (by omega), if_pos rfl]
  | k + 1, f + 1, f' + 1, p, tape, hX, h, h', hp, hk, he, ha => by
    have hn := hX.1
    have hb := hX.2.2.2 p hp (by omega)
    have hh : heT B n p = B p := by unfold heT; rw [if_pos (by omega)]
    rw [mX4_readWord_L5, if_neg (show ¬ tape.2.2.1 ≤ tape.2.2.2.1 by rw [he, ha, zI_le (by omega) (by omega) (by omega) (by omega)]; omega), ha, rd_A hX.2.1 hp (by omega) (by omega) (by omega), sob, X4_isLetter_z (by omega), sob]
    rw [mX6_token_L64, X6_here_z hX (by omega), hh, sob, X6_isSmall_z (by omega), sob]
    simp only [zI_a1]
    obtain ⟨q, g1, g2, g3, g4, g5⟩ := X46_word k f f' (p + 1) (tape.1, tape.2.1, tape.2.2.1, zI (p + 1), tape.2.2.2.2) hX (by omega) (by omega) (by omega) (by omega) he rfl
    by_cases c : 97 ≤ B p ∧ B p ≤ 122
    · rw [bz_t c, if_neg i1, if_neg i1]
      exact ⟨q, g1, g2, by omega, g4, fun _ _ => by omega⟩
    · rw [bz_f c, if_pos rfl, if_pos rfl]
      exact ⟨p, by rw [← ha], rfl, by omega, by omega, fun _ y => absurd y c⟩
/-- numbers: alike up to 9999, else both beyond -/
def nmR (a b : Int) : Prop := (0 ≤ b ∧ b ≤ 9999 ∧ a = b) ∨ (10000 ≤ b ∧ b ≤ 99999 ∧ 10000 ≤ a ∧ a ≤ 100000)
theorem X46_num {b6 : FnT} {fe n : Int} {B : Int → Int} : ∀ (k f f' : Nat) (p a b : Int) (tape : TapT), TxB tape.1 b6 fe n B → k < f → k < f' → 0 ≤ p → n = p + k → tape.2.2.1 = zI n → tape.2.2.2.1 = zI p → tape.2.2.2.2.2.2 = zI a → nmR a b →
    ∃ q a' b', mX4_readNumber_L10 f tape = some (tape.1, tape.2.1, tape.2.2.1, zI q, tape.2.2.2.2.1, tape.2.2.2.2.2.1, zI a') ∧ mX6_token_L120 b6 (zI n) f' (zI p) (zI b) = some (zI q, zI b') ∧ nmR a' b' ∧ p ≤ q ∧ q ≤ n ∧ (p < n → 48 ≤ B p ∧ B p ≤ 57 → p < q)
  | k, 0, f', p, a, b, tape, _, h, _, _, _, _, _, _, _ => absurd h (Nat.not_lt_zero k)
  | k, f + 1, 0, p, a, b, tape, _, _, h, _, _, _, _, _, _ => absurd h (Nat.not_lt_zero k)
  | 0, f + 1, f' + 1, p, a, b, tape, hX, _, _, hp, hk, he, ha, hnu, hR => by
    have hn := hX.1
    have hh : heT B n p = -1 := by unfold heT; rw [if_neg (by omega)]
    rw [mX4_readNumber_L10, if_pos (show tape.2.2.1 ≤ tape.2.2.2.1 by rw [he, ha, zI_le (by omega) (by omega) (by omega) (by omega)]; omega)]
    refine ⟨p, a, b, by rw [← ha, ← hnu], ?_, hR, by omega, by omega, by omega⟩
    rw [mX6_token_L120, X6_here_z hX (by omega), hh, sob, X6_isDigit_z (by omega), sob, bz_f (by omega), if_pos rfl]
  | k + 1, f + 1, f' + 1, p, a, b, tape, hX, h, h', hp, hk, he, ha, hnu, hR => by
    have hn := hX.1
    have hb := hX.2.2.2 p hp (by omega)
    have hh : heT B n p = B p := by unfold heT; rw [if_pos (by omega)]
    rw [mX4_readNumber_L10, if_neg (show ¬ tape.2.2.1 ≤ tape.2.2.2.1 by rw [he, ha, zI_le (by omega) (by omega) (by omega) (by omega)]; omega), ha, rd_A hX.2.1 hp (by omega) (by omega) (by omega), sob, X4_isDigit_z (by omega), sob, sob, hnu]
    rw [mX6_token_L120, X6_here_z hX (by omega), hh, sob, X6_isDigit_z (by omega), sob, sob]
    simp only [zI_a1]
    by_cases c : 48 ≤ B p ∧ B p ≤ 57
    · rw [bz_t c, if_neg i1, if_neg i1]
      have hr : -1000 ≤ a ∧ a ≤ 100000 ∧ 0 ≤ b ∧ b ≤ 99999 := by
        rcases hR with ⟨x, y, z⟩ | ⟨x, y, z, w⟩
        · omega
        · omega
      rw [show (10 : Int32) = zI 10 from rfl, show (48 : Int32) = zI 48 from rfl, show (100000 : Int32) = zI 100000 from rfl, show (9999 : Int32) = zI 9999 from rfl]
      simp only [zI_mul, zI_sub, zI_add]
      simp (disch := omega) only [zI_lt, zI_le]
      have key : ∀ a2 b2 : Int, nmR a2 b2 → ∃ q a' b', mX4_readNumber_L10 f (tape.1, tape.2.1, tape.2.2.1, zI (p + 1), tape.2.2.2.2.1, tape.2.2.2.2.2.1, zI a2) = some (tape.1, tape.2.1, tape.2.2.1, zI q, tape.2.2.2.2.1, tape.2.2.2.2.2.1, zI a') ∧ mX6_token_L120 b6 (zI n) f' (zI (p + 1)) (zI b2) = some (zI q, zI b') ∧ nmR a' b' ∧ p ≤ q ∧ q ≤ n ∧ (p < n → 48 ≤ B p ∧ B p ≤ 57 → p < q) := by
        intro a2 b2 hR2
        obtain ⟨q, a', b', g1, g2, g3, g4, g5, g6⟩ := X46_num k f f' (p + 1) a2 b2 (tape.1, tape.2.1, tape.2.2.1, zI (p + 1), tape.2.2.2.2.1, tape.2.2.2.2.2.1, zI a2) hX (by omega) (by omega) (by omega) (by omega) he rfl rfl hR2
        exact ⟨q, a', b', g1, g2, g3, by omega, g5, fun _ _ => by omega⟩
      by_cases d : b ≤ 9999
      · have hab : a = b := by
          rcases hR with ⟨x, y, z⟩ | ⟨x, y, z, w⟩
          · exact z
          · omega
        subst hab
        rw [if_pos d, if_neg (show ¬ 100000 < a * 10 + (B p - 48) by omega), sob]
        exact key _ _ (by
          unfold nmR
          by_cases g : 10 * a + B p - 48 ≤ 9999
          · left; omega
          · right; omega)
      · rw [if_neg d, sob]
        have ha2 : 10000 ≤ a := by
          rcases hR with ⟨x, y, z⟩ | ⟨x, y, z, w⟩
          · omega
          · exact z
        by_cases g : 100000 < a * 10 + (B p - 48)
        · rw [if_pos g]
          exact key _ _ (Or.inr (by omega))
        · rw [if_neg g]
          exact key _ _ (Or.inr (by omega))
    · rw [bz_f c, if_pos rfl, if_pos rfl]
      exact ⟨p, a, b, by rw [← ha, ← hnu], rfl, hR, by omega, by omega, fun _ y => absurd y c⟩
/-! words: i a String constant; o where it stands in the reference's row of words -/
def wdT (i : Nat) (k : Int) : Int := ((bytS.getD i []).getD k.toNat 0).toInt
def wlT (i : Nat) : Int := (lenS.getD i 0 : Nat)
theorem sC_all : ∀ i : Nat, i < 11 → ∀ k : Nat, k < lenS.getD i 0 → sC i (zI (k : Int)) = some (zI (wdT i (k : Int))) := by decide +kernel
theorem sC_z {i : Nat} (hi : i < 11) {k : Int} (h0 : 0 ≤ k) (h1 : k < wlT i) : sC i (zI k) = some (zI (wdT i k)) := by
  have := sC_all i hi k.toNat (by unfold wlT at h1; omega)
  rw [show (k.toNat : Int) = k by omega] at this
  exact this
theorem wdT_all : ∀ i : Nat, i < 11 → ∀ k : Nat, k < 50 → 0 ≤ wdT i (k : Int) ∧ wdT i (k : Int) < 256 := by decide +kernel
theorem wdT_in {i : Nat} (hi : i < 11) {k : Int} (h0 : 0 ≤ k) (h1 : k < 50) : 0 ≤ wdT i k ∧ wdT i k < 256 := by
  have := wdT_all i hi k.toNat (by omega)
  rw [show (k.toNat : Int) = k by omega] at this
  exact this
theorem wlT_all : ∀ i : Nat, i < 11 → 1 ≤ wlT i ∧ wlT i ≤ 44 := by decide +kernel
theorem sL_z (i : Nat) : sL i = zI (wlT i) := Int32.ofInt_eq_ofNat.symm
/-- the word from s on up to a is the constant i -/
def wmT (B : Int → Int) (s a : Int) (i : Nat) : Prop := a - s = wlT i ∧ ∀ k, 0 ≤ k → k < wlT i → B (s + k) = wdT i k
theorem X4_isWord_L {tape : TapT} {fe s a : Int} {B : Int → Int} {i : Nat} (hi : i < 11) (hA : Ar tape.1 fe B) (hB : ∀ i, 0 ≤ i → i < fe → 0 ≤ B i ∧ B i < 256) (hfe : fe ≤ 900) (hs : tape.2.2.2.2.1 = zI s) (hsa : 0 ≤ s ∧ s + wlT i = a ∧ a ≤ fe) : ∀ (k f : Nat) (p : Int), k < f → 0 ≤ p → wlT i = p + k → (mX4_isWord_L28 tape i f (zI p) = some 1 ∧ ∀ j, p ≤ j → j < wlT i → B (s + j) = wdT i j) ∨ (mX4_isWord_L28 tape i f (zI p) = some 0 ∧ ¬ ∀ j, p ≤ j → j < wlT i → B (s + j) = wdT i j)
  | k, 0, p, h, _, _ => absurd h (Nat.not_lt_zero k)
  | 0, f + 1, p, _, hp, hk => by
    have hw := wlT_all i hi
    rw [mX4_isWord_L28, sL_z, if_pos (show zI (wlT i) ≤ zI p by rw [zI_le (by omega) (by omega) (by omega) (by omega)]; omega)]
    exact Or.inl ⟨rfl, fun j g0 g1 => by omega⟩
  | k + 1, f + 1, p, h, hp, hk => by
    have hw := wlT_all i hi
    have hb := hB (s + p) (by omega) (by omega)
    have hd := wdT_in hi hp (show p < 50 by omega)
    rw [mX4_isWord_L28, sL_z, if_neg (show ¬ zI (wlT i) ≤ zI p by rw [zI_le (by omega) (by omega) (by omega) (by omega)]; omega), hs, zI_add, rd_A hA (by omega) (by omega) (by omega) (by omega), sob, sC_z hi hp (by omega), sob, zI_a1]
    simp (disch := omega) only [zI_eq]
    by_cases e : B (s + p) = wdT i p
    · rw [if_pos e]
      rcases X4_isWord_L hi hA hB hfe hs hsa k f (p + 1) (by omega) (by omega) (by omega) with ⟨q1, q2⟩ | ⟨q1, q2⟩
      · exact Or.inl ⟨q1, fun j g0 g1 => by
          by_cases y : j = p
          · rw [y]; exact e
          · exact q2 j (by omega) g1⟩
      · exact Or.inr ⟨q1, fun y => q2 (fun j g0 g1 => y j (by omega) g1)⟩
    · rw [if_neg e]
      exact Or.inr ⟨rfl, fun y => e (y p (by omega) (by omega))⟩
theorem X4_isWord_z {tape : TapT} {fe s a : Int} {B : Int → Int} {i : Nat} (hi : i < 11) (hA : Ar tape.1 fe B) (hB : ∀ i, 0 ≤ i → i < fe → 0 ≤ B i ∧ B i < 256) (hfe : fe ≤ 900) (hs : tape.2.2.2.2.1 = zI s) (ha : tape.2.2.2.1 = zI a) (ht : tape.2.2.2.2.2.1 = 1) (hsa : 0 ≤ s ∧ s ≤ a ∧ a ≤ fe) : (mX4_isWord tape i = some 1 ∧ wmT B s a i) ∨ (mX4_isWord tape i = some 0 ∧ ¬ wmT B s a i) := by
  have hw := wlT_all i hi
  unfold mX4_isWord wmT
  rw [if_neg (not_not_intro ht), ha, hs, zI_sub, sL_z]
  simp (disch := omega) only [zI_eq]
  by_cases c : a - s = wlT i
  · rw [if_pos c]
    rcases X4_isWord_L (a := a) hi hA hB hfe hs (by omega) (wlT i).toNat FU 0 (by rw [FU_e]; omega) (by omega) (by omega) with ⟨q1, q2⟩ | ⟨q1, q2⟩
    · exact Or.inl ⟨q1, c, q2⟩
    · exact Or.inr ⟨q1, fun y => q2 y.2⟩
  · rw [if_neg c]
    exact Or.inr ⟨rfl, fun y => c y.1⟩
theorem X4_isWord_no {tape : TapT} {i : Nat} (ht : ¬ tape.2.2.2.2.2.1 = 1) : mX4_isWord tape i = some 0 := by
  unfold mX4_isWord
  rw [if_pos ht]
/-- the reference's words: the n-th, as a constant; where it begins -/
def rwC (n : Nat) : Nat := [4, 5, 6, 7, 0, 1, 2, 3].getD n 0
def rwO (n : Nat) : Nat := [0, 6, 11, 17, 22, 26, 33, 39, 44].getD n 0
theorem rw_1 : ∀ n : Nat, n < 8 → rwC n < 8 ∧ rwO (n + 1) = rwO n + lenS.getD (rwC n) 0 + 1 ∧ rwO n + lenS.getD (rwC n) 0 < 44 ∧ mX6_wordHere_L97 FU (zI (rwO n : Int)) = some (zI ((rwO n + lenS.getD (rwC n) 0 : Nat) : Int)) := by decide +kernel
theorem rw_2 : ∀ n : Nat, n < 8 → ∀ k : Nat, k < lenS.getD (rwC n) 0 → wdT 10 ((rwO n + k : Nat) : Int) = wdT (rwC n) (k : Int) ∧ wdT (rwC n) (k : Int) ≠ 32 := by decide +kernel
theorem rw_3 : ∀ n : Nat, n < 8 → wdT 10 ((rwO n + lenS.getD (rwC n) 0 : Nat) : Int) = 32 := by decide +kernel
theorem rw_4 : ∀ i : Nat, i < 8 → ∀ j : Nat, j < 8 → i ≠ j → (lenS.getD i 0 ≠ lenS.getD j 0 ∨ ∃ k : Fin 6, k.val < lenS.getD i 0 ∧ wdT i (k.val : Int) ≠ wdT j (k.val : Int)) := by decide +kernel
theorem wmT_uq {B : Int → Int} {s a : Int} {i j : Nat} (hi : i < 8) (hj : j < 8) (h : wmT B s a i) (h2 : wmT B s a j) : i = j := by
  refine Classical.byContradiction fun c => ?_
  rcases rw_4 i hi j hj c with q | ⟨k, q1, q2⟩
  · have := h.1; have := h2.1; unfold wlT at *; omega
  · have e1 := h.2 (k.val : Int) (by omega) (by unfold wlT; omega)
    have e2 := h2.2 (k.val : Int) (by omega) (by have := h.1; have := h2.1; unfold wlT at *; omega)
    exact q2 (by rw [← e1, ← e2])
theorem X6_word_I {b6 : FnT} {fe s a : Int} {B : Int → Int} {n : Nat} (hn : n < 8) (hA : Ar b6 fe B) (hB : ∀ i, 0 ≤ i → i < fe → 0 ≤ B i ∧ B i < 256) (hfe : fe ≤ 900) (hsa : 0 ≤ s ∧ s ≤ a ∧ a ≤ fe) : ∀ (k f : Nat) (i : Int), k < f → 0 ≤ i → wlT (rwC n) = i + k → s + i ≤ a → ∃ z, mX6_wordHere_L15 b6 (zI a) (zI s) (zI (rwO n : Int)) f (zI i) = some (zI z) ∧ i ≤ z ∧ z ≤ wlT (rwC n) ∧ ((z = wlT (rwC n) ∧ s + z = a) ↔ (a - s = wlT (rwC n) ∧ ∀ j, i ≤ j → j < wlT (rwC n) → B (s + j) = wdT (rwC n) j))
  | k, 0, i, h, _, _, _ => absurd h (Nat.not_lt_zero k)
  | 0, f + 1, i, _, hi, hk, hia => by
    obtain ⟨c1, c2, c3, c4⟩ := rw_1 n hn
    have hw := wlT_all (rwC n) (by omega)
    have h3 := rw_3 n hn
    have hi2 : (rwO n : Int) + i = ((rwO n + lenS.getD (rwC n) 0 : Nat) : Int) := by unfold wlT at hk; omega
    rw [mX6_wordHere_L15, zI_add, hi2, sC_z (i := 10) (by omega) (by omega) (by unfold wlT; show _ < ((44 : Nat) : Int); omega), sob, h3, if_pos (show zI 32 = 32 from rfl)]
    exact ⟨i, rfl, by omega, by omega, ⟨fun y => ⟨by omega, fun j g0 g1 => by omega⟩, fun y => by omega⟩⟩
  | k + 1, f + 1, i, h, hi, hk, hia => by
    obtain ⟨c1, c2, c3, c4⟩ := rw_1 n hn
    have hw := wlT_all (rwC n) (by omega)
    have h2 := rw_2 n hn i.toNat (by unfold wlT at hk; omega)
    rw [show (i.toNat : Int) = i by omega] at h2
    have hi2 : (rwO n : Int) + i = ((rwO n + i.toNat : Nat) : Int) := by omega
    have hd := wdT_in (i := rwC n) (by omega) hi (show i < 50 by omega)
    rw [mX6_wordHere_L15, zI_add, hi2, sC_z (i := 10) (by omega) (by omega) (by unfold wlT at hk ⊢; show _ < ((44 : Nat) : Int); omega), sob, h2.1, if_neg (show ¬ zI (wdT (rwC n) i) = 32 by rw [show (32 : Int32) = zI 32 from rfl, zI_eq (by omega) (by omega) (by omega) (by omega)]; exact h2.2), zI_add]
    by_cases d : a ≤ s + i
    · rw [if_pos (show zI a ≤ zI (s + i) by rw [zI_le (by omega) (by omega) (by omega) (by omega)]; exact d)]
      exact ⟨i, rfl, by omega, by omega, ⟨fun y => by omega, fun y => by omega⟩⟩
    · have hb := hB (s + i) (by omega) (by omega)
      rw [if_neg (show ¬ zI a ≤ zI (s + i) by rw [zI_le (by omega) (by omega) (by omega) (by omega)]; exact d), rd_A hA (by omega) (by omega) (by omega) (by omega), sob, sob, zI_a1]
      simp (disch := omega) only [zI_eq]
      by_cases e : B (s + i) = wdT (rwC n) i
      · rw [if_neg (not_not_intro e)]
        obtain ⟨z, q1, q2, q3, q4⟩ := X6_word_I hn hA hB hfe hsa k f (i + 1) (by omega) (by omega) (by omega) (by omega)
        refine ⟨z, q1, by omega, q3, q4.trans ⟨fun y => ⟨y.1, fun j g0 g1 => ?_⟩, fun y => ⟨y.1, fun j g0 g1 => y.2 j (by omega) g1⟩⟩⟩
        by_cases w : j = i
        · rw [w]; exact e
        · exact y.2 j (by omega) g1
      · rw [if_pos e]
        exact ⟨i, rfl, by omega, by omega, ⟨fun y => by omega, fun y => absurd (y.2 i (by omega) (by omega)) e⟩⟩
theorem X6_word_O {b6 : FnT} {fe s a : Int} {B : Int → Int} (hA : Ar b6 fe B) (hB : ∀ i, 0 ≤ i → i < fe → 0 ≤ B i ∧ B i < 256) (hfe : fe ≤ 900) (hsa : 0 ≤ s ∧ s ≤ a ∧ a ≤ fe) : ∀ (k f n : Nat), k < f → 8 = n + k → ∃ w, mX6_wordHere_L4 b6 (zI a) (zI s) f (zI (n : Int)) (zI (rwO n : Int)) = some (zI w) ∧ ((w = -1 ∧ ∀ j : Nat, n ≤ j → j < 8 → ¬ wmT B s a (rwC j)) ∨ (∃ j : Nat, n ≤ j ∧ j < 8 ∧ w = j ∧ wmT B s a (rwC j)))
  | k, 0, n, h, _ => absurd h (Nat.not_lt_zero k)
  | 0, f + 1, n, _, hk => by
    have : n = 8 := by omega
    subst this
    rw [mX6_wordHere_L4, sL_z, if_pos (show zI (wlT 10) ≤ zI (rwO 8 : Int) by decide)]
    exact ⟨-1, rfl, Or.inl ⟨rfl, fun j g0 g1 => by omega⟩⟩
  | k + 1, f + 1, n, h, hk => by
    obtain ⟨c1, c2, c3, c4⟩ := rw_1 n (by omega)
    have hw := wlT_all (rwC n) (by omega)
    obtain ⟨z, q1, q2, q3, q4⟩ := X6_word_I (n := n) (by omega) hA hB hfe hsa (wlT (rwC n)).toNat FU 0 (by rw [FU_e]; omega) (by omega) (by omega) (by omega)
    have hlt : ¬ sL 10 ≤ zI (rwO n : Int) := by
      rw [sL_z, zI_le (by have := wlT_all 10 (by omega); omega) (by have := wlT_all 10 (by omega); omega) (by omega) (by omega)]
      show ¬ ((44 : Nat) : Int) ≤ _
      omega
    have hz : z = z.toNat := by omega
    have hzl : z.toNat ≤ lenS.getD (rwC n) 0 := by unfold wlT at q3; omega
    have hread : sC 10 (zI ((rwO n : Int) + z)) = some (zI (wdT 10 ((rwO n : Int) + z))) := sC_z (by omega) (by omega) (by unfold wlT; show _ < ((44 : Nat) : Int); omega)
    have hidx : (rwO n : Int) + z = ((rwO n + z.toNat : Nat) : Int) := by omega
    obtain ⟨w, r1, r2⟩ := X6_word_O hA hB hfe hsa k f (n + 1) (by omega) (by omega)
    have hoff : zI ((rwO n + lenS.getD (rwC n) 0 : Nat) : Int) + 1 = zI (rwO (n + 1) : Int) := by rw [zI_a1, c2]; congr 1
    have next : ¬ wmT B s a (rwC n) → ∃ w, mX6_wordHere_L4 b6 (zI a) (zI s) f (zI ((n : Int) + 1)) (zI (rwO (n + 1) : Int)) = some (zI w) ∧ ((w = -1 ∧ ∀ j : Nat, n ≤ j → j < 8 → ¬ wmT B s a (rwC j)) ∨ (∃ j : Nat, n ≤ j ∧ j < 8 ∧ w = j ∧ wmT B s a (rwC j))) := by
      intro hno
      refine ⟨w, r1, ?_⟩
      rcases r2 with ⟨y1, y2⟩ | ⟨j, y1, y2, y3, y4⟩
      · exact Or.inl ⟨y1, fun j g0 g1 => by
          by_cases e : j = n
          · rw [e]; exact hno
          · exact y2 j (by omega) g1⟩
      · exact Or.inr ⟨j, by omega, y2, y3, y4⟩
    rw [mX6_wordHere_L4, if_neg hlt, show (0 : Int32) = zI 0 from rfl, q1, sob, zI_add, hread, sob, zI_add, c4, sob, hoff, zI_a1, hidx]
    by_cases m : z = wlT (rwC n)
    · have h32 : wdT 10 ((rwO n + z.toNat : Nat) : Int) = 32 := by
        rw [show rwO n + z.toNat = rwO n + lenS.getD (rwC n) 0 by unfold wlT at m; omega]; exact rw_3 n (by omega)
      rw [h32, if_neg (show ¬ ¬ zI 32 = 32 from not_not_intro rfl)]
      by_cases e : s + z = a
      · rw [if_neg (show ¬ ¬ zI (s + z) = zI a by rw [e]; exact not_not_intro rfl)]
        have := q4.mp ⟨m, e⟩
        exact ⟨n, rfl, Or.inr ⟨n, by omega, by omega, rfl, this.1, fun k g0 g1 => this.2 k g0 g1⟩⟩
      · rw [if_pos (show ¬ zI (s + z) = zI a by rw [zI_eq (by omega) (by omega) (by omega) (by omega)]; exact e)]
        exact next (fun y => e (q4.mpr ⟨y.1, fun j g0 g1 => y.2 j g0 g1⟩).2)
    · have h32 := rw_2 n (by omega) z.toNat (by unfold wlT at m q3; omega)
      have hd := wdT_in (i := rwC n) (by omega) (show 0 ≤ (z.toNat : Int) by omega) (show (z.toNat : Int) < 50 by omega)
      rw [h32.1, if_pos (show ¬ zI (wdT (rwC n) (z.toNat : Int)) = 32 by rw [show (32 : Int32) = zI 32 from rfl, zI_eq (by omega) (by omega) (by omega) (by omega)]; exact h32.2)]
      exact next (fun y => m (q4.mpr ⟨y.1, fun j g0 g1 => y.2 j g0 g1⟩).1)
/-- which word: the reference's number -/
def wdR (B : Int → Int) (s a nb : Int) : Prop := (nb = -1 ∧ ∀ j : Nat, j < 8 → ¬ wmT B s a (rwC j)) ∨ (∃ j : Nat, j < 8 ∧ nb = j ∧ wmT B s a (rwC j))
theorem X6_wordHere_z {b6 : FnT} {fe s a : Int} {B : Int → Int} (hA : Ar b6 fe B) (hB : ∀ i, 0 ≤ i → i < fe → 0 ≤ B i ∧ B i < 256) (hfe : fe ≤ 900) (hsa : 0 ≤ s ∧ s ≤ a ∧ a ≤ fe) : ∃ w, mX6_wordHere b6 (zI a) (zI s) = some (zI w) ∧ wdR B s a w := by
  obtain ⟨w, e, h⟩ := X6_word_O hA hB hfe hsa 8 FU 0 (by rw [FU_e]; omega) (by omega)
  refine ⟨w, e, ?_⟩
  rcases h with ⟨y1, y2⟩ | ⟨j, y1, y2, y3, y4⟩
  · exact Or.inl ⟨y1, fun j g => y2 j (by omega) g⟩
  · exact Or.inr ⟨j, y2, y3, y4⟩
