/-! PURE ROWS. The text's tokens, both ways -/
theorem X4_isBlank_z {c : Int} (h : -1 ≤ c ∧ c < 256) : mX4_isBlank (zI c) = some (bz (c = 10 ∨ c = 32)) := by
  unfold mX4_isBlank
  rw [show (10 : Int32) = zI 10 from rfl, show (32 : Int32) = zI 32 from rfl]
  simp (disch := omega) only [zI_eq]
  by_cases a : c = 10
  · rw [if_pos a, bz_t (Or.inl a)]
  · rw [if_neg a]
    by_cases b : c = 32
    · rw [if_neg (not_not_intro b), bz_t (Or.inr b)]
    · rw [if_pos b, bz_f (by omega)]
theorem X4_isDigit_z {c : Int} (h : -1 ≤ c ∧ c < 256) : mX4_isDigit (zI c) = some (bz (48 ≤ c ∧ c ≤ 57)) := by
  unfold mX4_isDigit
  refine bz2 ?_
  rw [show (48 : Int32) = zI 48 from rfl, show (57 : Int32) = zI 57 from rfl, zI_lt (by omega) (by omega) (by omega) (by omega), zI_lt (by omega) (by omega) (by omega) (by omega)]
  omega
theorem X4_isLetter_z {c : Int} (h : -1 ≤ c ∧ c < 256) : mX4_isLetter (zI c) = some (bz (97 ≤ c ∧ c ≤ 122)) := by
  unfold mX4_isLetter
  refine bz2 ?_
  rw [show (97 : Int32) = zI 97 from rfl, show (122 : Int32) = zI 122 from rfl, zI_lt (by omega) (by omega) (by omega) (by omega), zI_lt (by omega) (by omega) (by omega) (by omega)]
  omega
theorem X6_isDigit_z {c : Int} (h : -1 ≤ c ∧ c < 256) : mX6_isDigit (zI c) = some (bz (48 ≤ c ∧ c ≤ 57)) := X4_isDigit_z h
theorem X6_isSmall_z {c : Int} (h : -1 ≤ c ∧ c < 256) : mX6_isSmall (zI c) = some (bz (97 ≤ c ∧ c ≤ 122)) := X4_isLetter_z h
/-- the bytes of both, n of them the text -/
def TxB (b5 b6 : FnT) (fe n : Int) (B : Int → Int) : Prop := (0 ≤ n ∧ n ≤ fe ∧ fe ≤ 900) ∧ Ar b5 fe B ∧ Ar b6 fe B ∧ ∀ i, 0 ≤ i → i < fe → 0 ≤ B i ∧ B i < 256
def heT (B : Int → Int) (n p : Int) : Int := if p < n then B p else -1
theorem heT_in {b5 b6 : FnT} {fe n p : Int} {B : Int → Int} (h : TxB b5 b6 fe n B) (hp : 0 ≤ p) : -1 ≤ heT B n p ∧ heT B n p < 256 := by
  unfold heT
  by_cases c : p < n
  · rw [if_pos c]; have := h.2.2.2 p hp (by have := h.1; omega); omega
  · rw [if_neg c]; omega
theorem X6_here_z {b5 b6 : FnT} {fe n p : Int} {B : Int → Int} (h : TxB b5 b6 fe n B) (hp : 0 ≤ p ∧ p ≤ 900) : mX6_here b6 (zI n) (zI p) = some (zI (heT B n p)) := by
  have hn := h.1
  unfold mX6_here heT
  by_cases c : p < n
  · rw [if_neg (show ¬ zI n ≤ zI p by rw [zI_le (by omega) (by omega) (by omega) (by omega)]; omega), rd_A h.2.2.1 hp.1 (by omega) (by omega) (by omega), sob, if_pos c]
  · rw [if_pos (show zI n ≤ zI p by rw [zI_le (by omega) (by omega) (by omega) (by omega)]; omega), if_neg c]
    rfl
/-- blanks -/
theorem X46_blank {b6 : FnT} {fe n : Int} {B : Int → Int} : ∀ (k f f' : Nat) (p : Int) (tape : TapT), TxB tape.1 b6 fe n B → k < f → k < f' → 0 ≤ p → n = p + k → tape.2.2.1 = zI n → tape.2.2.2.1 = zI p →
    ∃ q, mX4_advance_L0 f tape = some (tape.1, tape.2.1, tape.2.2.1, zI q, tape.2.2.2.2) ∧ mX6_token_L0 b6 (zI n) f' (zI p) = some (zI q) ∧ p ≤ q ∧ q ≤ n ∧ (q < n → B q ≠ 10 ∧ B q ≠ 32)
  | k, 0, f', p, tape, _, h, _, _, _, _, _ => absurd h (Nat.not_lt_zero k)
  | k, f + 1, 0, p, tape, _, _, h, _, _, _, _ => absurd h (Nat.not_lt_zero k)
  | 0, f + 1, f' + 1, p, tape, hX, _, _, hp, hk, he, ha => by
    have hn := hX.1
    have hh : heT B n p = -1 := by unfold heT; rw [if_neg (by omega)]
    rw [mX4_advance_L0, if_pos (show tape.2.2.1 ≤ tape.2.2.2.1 by rw [he, ha, zI_le (by omega) (by omega) (by omega) (by omega)]; omega)]
    refine ⟨p, by rw [← ha], ?_, by omega, by omega, by omega⟩
    rw [mX6_token_L0, X6_here_z hX (by omega), hh, sob, if_neg (by decide), sob, if_pos (by decide)]
  | k + 1, f + 1, f' + 1, p, tape, hX, h, h', hp, hk, he, ha => by
    have hn := hX.1
    have hb := hX.2.2.2 p hp (by omega)
    have hh : heT B n p = B p := by unfold heT; rw [if_pos (by omega)]
    rw [mX4_advance_L0, if_neg (show ¬ tape.2.2.1 ≤ tape.2.2.2.1 by rw [he, ha, zI_le (by omega) (by omega) (by omega) (by omega)]; omega), ha, rd_A hX.2.1 hp (by omega) (by omega) (by omega), sob, X4_isBlank_z (by omega), sob]
    rw [mX6_token_L0, X6_here_z hX (by omega), hh, sob, sob, show (10 : Int32) = zI 10 from rfl, show (32 : Int32) = zI 32 from rfl]
    simp (disch := omega) only [zI_eq, zI_a1]
    obtain ⟨q, g1, g2, g3, g4, g5⟩ := X46_blank k f f' (p + 1) (tape.1, tape.2.1, tape.2.2.1, zI (p + 1), tape.2.2.2.2) hX (by omega) (by omega) (by omega) (by omega) he rfl
    by_cases c : B p = 10 ∨ B p = 32
    · rw [bz_t c, if_neg i1]
      refine ⟨q, g1, ?_, by omega, g4, g5⟩
      rcases c with c | c
      · rw [if_pos c]; exact g2
      · rw [if_neg (show ¬ B p = 10 by omega), if_neg (not_not_intro c)]; exact g2
    · rw [bz_f c, if_pos rfl, if_neg (show ¬ B p = 10 by omega), if_pos (show ¬ B p = 32 by omega)]
      exact ⟨p, by rw [← ha], rfl, by omega, by omega, fun _ => by omega⟩
/-- letters -/
theorem X46_word {b6 : FnT} {fe n : Int} {B : Int → Int} : ∀ (k f f' : Nat) (p : Int) (tape : TapT), TxB tape.1 b6 fe n B → k < f → k < f' → 0 ≤ p → n = p + k → tape.2.2.1 = zI n → tape.2.2.2.1 = zI p →
    ∃ q, mX4_readWord_L5 f tape = some (tape.1, tape.2.1, tape.2.2.1, zI q, tape.2.2.2.2) ∧ mX6_token_L64 b6 (zI n) f' (zI p) = some (zI q) ∧ p ≤ q ∧ q ≤ n ∧ (p < n → 97 ≤ B p ∧ B p ≤ 122 → p < q)
  | k, 0, f', p, tape, _, h, _, _, _, _, _ => absurd h (Nat.not_lt_zero k)
  | k, f + 1, 0, p, tape, _, _, h, _, _, _, _ => absurd h (Nat.not_lt_zero k)
  | 0, f + 1, f' + 1, p, tape, hX, _, _, hp, hk, he, ha => by
    have hn := hX.1
    have hh : heT B n p = -1 := by unfold heT; rw [if_neg (by omega)]
    rw [mX4_readWord_L5, if_pos (show tape.2.2.1 ≤ tape.2.2.2.1 by rw [he, ha, zI_le (by omega) (by omega) (by omega) (by omega)]; omega)]
    refine ⟨p, by rw [← ha], ?_, by omega, by omega, by omega⟩
    rw [mX6_token_L64, X6_here_z hX (by omega), hh, sob, X6_isSmall_z (by omega), sob, bz_f (by omega), if_pos rfl]
  | k + 1, f + 1, f' + 1, p, tape, hX, h, h', hp, hk, he, ha => by
    have hn := hX.1
    have hb := hX.2.2.2 p hp (by omega)
    have hh : heT B n p = B p := by unfold heT; rw [if_pos (by omega)]
    rw [mX4_readWord_L5, if_neg (show ¬ tape.2.2.1 ≤ tape.2.2.2.1 by rw [he, ha, zI_le (by omega) (by omega) (by omega) (by omega)]; omega), ha, rd_A hX.2.1 hp (by omega) (by omega) (by omega), sob, X4_isLetter_z (by omega), sob]
    rw [mX6_token_L64, X6_here_z hX (by omega), hh, sob, X6_isSmall_z (by omega), sob]
    simp only [zI_a1]
    obtain ⟨q, g1, g2, g3, g4, g5⟩ := X46_word k f f' (p + 1) (tape.1, tape.2.1, tape.2.2.1, zI (p + 1), tape.2.2.2.2) hX (by omega) (by omega) (by omega) (by omega) he rfl
    by_cases c : 97 ≤ B p ∧ B p ≤ 122
    · rw [bz_t c, if_neg i1, if_neg i1]
      exact ⟨q, g1, g2, by omega, g4, fun _ _ => by omega⟩
    · rw [bz_f c, if_pos rfl, if_pos rfl]
      exact ⟨p, by rw [← ha], rfl, by omega, by omega, fun _ y => absurd y c⟩
/-- numbers: alike up to 9999, else both beyond -/
def nmR (a b : Int) : Prop := (0 ≤ b ∧ b ≤ 9999 ∧ a = b) ∨ (10000 ≤ b ∧ b ≤ 99999 ∧ 10000 ≤ a ∧ a ≤ 100000)
theorem X46_num {b6 : FnT} {fe n : Int} {B : Int → Int} : ∀ (k f f' : Nat) (p a b : Int) (tape : TapT), TxB tape.1 b6 fe n B → k < f → k < f' → 0 ≤ p → n = p + k → tape.2.2.1 = zI n → tape.2.2.2.1 = zI p → tape.2.2.2.2.2.2 = zI a → nmR a b →
    ∃ q a' b', mX4_readNumber_L10 f tape = some (tape.1, tape.2.1, tape.2.2.1, zI q, tape.2.2.2.2.1, tape.2.2.2.2.2.1, zI a') ∧ mX6_token_L120 b6 (zI n) f' (zI p) (zI b) = some (zI q, zI b') ∧ nmR a' b' ∧ p ≤ q ∧ q ≤ n ∧ (p < n → 48 ≤ B p ∧ B p ≤ 57 → p < q)
  | k, 0, f', p, a, b, tape, _, h, _, _, _, _, _, _, _ => absurd h (Nat.not_lt_zero k)
  | k, f + 1, 0, p, a, b, tape, _, _, h, _, _, _, _, _, _ => absurd h (Nat.not_lt_zero k)
  | 0, f + 1, f' + 1, p, a, b, tape, hX, _, _, hp, hk, he, ha, hnu, hR => by
    have hn := hX.1
    have hh : heT B n p = -1 := by unfold heT; rw [if_neg (by omega)]
    rw [mX4_readNumber_L10, if_pos (show tape.2.2.1 ≤ tape.2.2.2.1 by rw [he, ha, zI_le (by omega) (by omega) (by omega) (by omega)]; omega)]
    refine ⟨p, a, b, by rw [← ha, ← hnu], ?_, hR, by omega, by omega, by omega⟩
    rw [mX6_token_L120, X6_here_z hX (by omega), hh, sob, X6_isDigit_z (by omega), sob, bz_f (by omega), if_pos rfl]
  | k + 1, f + 1, f' + 1, p, a, b, tape, hX, h, h', hp, hk, he, ha, hnu, hR => by
    have hn := hX.1
    have hb := hX.2.2.2 p hp (by omega)
    have hh : heT B n p = B p := by unfold heT; rw [if_pos (by omega)]
    rw [mX4_readNumber_L10, if_neg (show ¬ tape.2.2.1 ≤ tape.2.2.2.1 by rw [he, ha, zI_le (by omega) (by omega) (by omega) (by omega)]; omega), ha, rd_A hX.2.1 hp (by omega) (by omega) (by omega), sob, X4_isDigit_z (by omega), sob, sob, hnu]
    rw [mX6_token_L120, X6_here_z hX (by omega), hh, sob, X6_isDigit_z (by omega), sob, sob]
    simp only [zI_a1]
    by_cases c : 48 ≤ B p ∧ B p ≤ 57
    · rw [bz_t c, if_neg i1, if_neg i1]
      have hr : -1000 ≤ a ∧ a ≤ 100000 ∧ 0 ≤ b ∧ b ≤ 99999 := by
        rcases hR with ⟨x, y, z⟩ | ⟨x, y, z, w⟩
        · omega
        · omega
      rw [show (10 : Int32) = zI 10 from rfl, show (48 : Int32) = zI 48 from rfl, show (100000 : Int32) = zI 100000 from rfl, show (9999 : Int32) = zI 9999 from rfl]
      simp only [zI_mul, zI_sub, zI_add]
      simp (disch := omega) only [zI_lt, zI_le]
      have key : ∀ a2 b2 : Int, nmR a2 b2 → ∃ q a' b', mX4_readNumber_L10 f (tape.1, tape.2.1, tape.2.2.1, zI (p + 1), tape.2.2.2.2.1, tape.2.2.2.2.2.1, zI a2) = some (tape.1, tape.2.1, tape.2.2.1, zI q, tape.2.2.2.2.1, tape.2.2.2.2.2.1, zI a') ∧ mX6_token_L120 b6 (zI n) f' (zI (p + 1)) (zI b2) = some (zI q, zI b') ∧ nmR a' b' ∧ p ≤ q ∧ q ≤ n ∧ (p < n → 48 ≤ B p ∧ B p ≤ 57 → p < q) := by
        intro a2 b2 hR2
        obtain ⟨q, a', b', g1, g2, g3, g4, g5, g6⟩ := X46_num k f f' (p + 1) a2 b2 (tape.1, tape.2.1, tape.2.2.1, zI (p + 1), tape.2.2.2.2.1, tape.2.2.2.2.2.1, zI a2) hX (by omega) (by omega) (by omega) (by omega) he rfl rfl hR2
        exact ⟨q, a', b', g1, g2, g3, by omega, g5, fun _ _ => by omega⟩
      by_cases d : b ≤ 9999
      · have hab : a = b := by
          rcases hR with ⟨x, y, z⟩ | ⟨x, y, z, w⟩
          · exact z
          · omega
        subst hab
        rw [if_pos d, if_neg (show ¬ 100000 < a * 10 + (B p - 48) by omega), sob]
        exact key _ _ (by
          unfold nmR
          by_cases g : 10 * a + B p - 48 ≤ 9999
          · left; omega
          · right; omega)
      · rw [if_neg d, sob]
        have ha2 : 10000 ≤ a := by
          rcases hR with ⟨x, y, z⟩ | ⟨x, y, z, w⟩
          · omega
          · exact z
        by_cases g : 100000 < a * 10 + (B p - 48)
        · rw [if_pos g]
          exact key _ _ (Or.inr (by omega))
        · rw [if_neg g]
          exact key _ _ (Or.inr (by omega))
    · rw [bz_f c, if_pos rfl, if_pos rfl]
      exact ⟨p, a, b, by rw [← ha, ← hnu], rfl, hR, by omega, by omega, fun _ y => absurd y c⟩
/-! words: i a String constant; o where it stands in the reference's row of words -/
def wdT (i : Nat) (k : Int) : Int := ((bytS.getD i []).getD k.toNat 0).toInt
def wlT (i : Nat) : Int := (lenS.getD i 0 : Nat)
theorem sC_all : ∀ i : Nat, i < 13 → ∀ k : Nat, k < lenS.getD i 0 → sC i (zI (k : Int)) = some (zI (wdT i (k : Int))) := by decide +kernel
theorem sC_z {i : Nat} (hi : i < 13) {k : Int} (h0 : 0 ≤ k) (h1 : k < wlT i) : sC i (zI k) = some (zI (wdT i k)) := by
  have := sC_all i hi k.toNat (by unfold wlT at h1; omega)
  rw [show (k.toNat : Int) = k by omega] at this
  exact this
theorem wdT_all : ∀ i : Nat, i < 13 → ∀ k : Nat, k < 50 → 0 ≤ wdT i (k : Int) ∧ wdT i (k : Int) < 256 := by decide +kernel
theorem wdT_in {i : Nat} (hi : i < 13) {k : Int} (h0 : 0 ≤ k) (h1 : k < 50) : 0 ≤ wdT i k ∧ wdT i k < 256 := by
  have := wdT_all i hi k.toNat (by omega)
  rw [show (k.toNat : Int) = k by omega] at this
  exact this
theorem wlT_all : ∀ i : Nat, i < 13 → 1 ≤ wlT i ∧ wlT i ≤ 44 := by decide +kernel
theorem sL_z (i : Nat) : sL i = zI (wlT i) := Int32.ofInt_eq_ofNat.symm
/-- the word from s on up to a is the constant i -/
def wmT (B : Int → Int) (s a : Int) (i : Nat) : Prop := a - s = wlT i ∧ ∀ k, 0 ≤ k → k < wlT i → B (s + k) = wdT i k
theorem X4_isWord_L {tape : TapT} {fe s a : Int} {B : Int → Int} {i : Nat} (hi : i < 13) (hA : Ar tape.1 fe B) (hB : ∀ i, 0 ≤ i → i < fe → 0 ≤ B i ∧ B i < 256) (hfe : fe ≤ 900) (hs : tape.2.2.2.2.1 = zI s) (hsa : 0 ≤ s ∧ s + wlT i = a ∧ a ≤ fe) : ∀ (k f : Nat) (p : Int), k < f → 0 ≤ p → wlT i = p + k → (mX4_isWord_L28 tape i f (zI p) = some 1 ∧ ∀ j, p ≤ j → j < wlT i → B (s + j) = wdT i j) ∨ (mX4_isWord_L28 tape i f (zI p) = some 0 ∧ ¬ ∀ j, p ≤ j → j < wlT i → B (s + j) = wdT i j)
  | k, 0, p, h, _, _ => absurd h (Nat.not_lt_zero k)
  | 0, f + 1, p, _, hp, hk => by
    have hw := wlT_all i hi
    rw [mX4_isWord_L28, sL_z, if_pos (show zI (wlT i) ≤ zI p by rw [zI_le (by omega) (by omega) (by omega) (by omega)]; omega)]
    exact Or.inl ⟨rfl, fun j g0 g1 => by omega⟩
  | k + 1, f + 1, p, h, hp, hk => by
    have hw := wlT_all i hi
    have hb := hB (s + p) (by omega) (by omega)
    have hd := wdT_in hi hp (show p < 50 by omega)
    rw [mX4_isWord_L28, sL_z, if_neg (show ¬ zI (wlT i) ≤ zI p by rw [zI_le (by omega) (by omega) (by omega) (by omega)]; omega), hs, zI_add, rd_A hA (by omega) (by omega) (by omega) (by omega), sob, sC_z hi hp (by omega), sob, zI_a1]
    simp (disch := omega) only [zI_eq]
    by_cases e : B (s + p) = wdT i p
    · rw [if_pos e]
      rcases X4_isWord_L hi hA hB hfe hs hsa k f (p + 1) (by omega) (by omega) (by omega) with ⟨q1, q2⟩ | ⟨q1, q2⟩
      · exact Or.inl ⟨q1, fun j g0 g1 => by
          by_cases y : j = p
          · rw [y]; exact e
          · exact q2 j (by omega) g1⟩
      · exact Or.inr ⟨q1, fun y => q2 (fun j g0 g1 => y j (by omega) g1)⟩
    · rw [if_neg e]
      exact Or.inr ⟨rfl, fun y => e (y p (by omega) (by omega))⟩
theorem X4_isWord_z {tape : TapT} {fe s a : Int} {B : Int → Int} {i : Nat} (hi : i < 13) (hA : Ar tape.1 fe B) (hB : ∀ i, 0 ≤ i → i < fe → 0 ≤ B i ∧ B i < 256) (hfe : fe ≤ 900) (hs : tape.2.2.2.2.1 = zI s) (ha : tape.2.2.2.1 = zI a) (ht : tape.2.2.2.2.2.1 = 1) (hsa : 0 ≤ s ∧ s ≤ a ∧ a ≤ fe) : (mX4_isWord tape i = some 1 ∧ wmT B s a i) ∨ (mX4_isWord tape i = some 0 ∧ ¬ wmT B s a i) := by
  have hw := wlT_all i hi
  unfold mX4_isWord wmT
  rw [if_neg (not_not_intro ht), ha, hs, zI_sub, sL_z]
  simp (disch := omega) only [zI_eq]
  by_cases c : a - s = wlT i
  · rw [if_pos c]
    rcases X4_isWord_L (a := a) hi hA hB hfe hs (by omega) (wlT i).toNat FU 0 (by rw [FU_e]; omega) (by omega) (by omega) with ⟨q1, q2⟩ | ⟨q1, q2⟩
    · exact Or.inl ⟨q1, c, q2⟩
    · exact Or.inr ⟨q1, fun y => q2 y.2⟩
  · rw [if_neg c]
    exact Or.inr ⟨rfl, fun y => c y.1⟩
theorem X4_isWord_no {tape : TapT} {i : Nat} (ht : ¬ tape.2.2.2.2.2.1 = 1) : mX4_isWord tape i = some 0 := by
  unfold mX4_isWord
  rw [if_pos ht]
