/-! pairs of blocks made new, as the law counts them -/
def toP (n : Int) (V : Int → Int) (n2 : Int) (V2 : Int → Int) (p : Int) : Bool := (decide (p < n2) && (decide (n ≤ p) || !decide (V2 p = V p))) || (decide (n2 ≤ p) && decide (p < n))
def anP (P : Int → Bool) : Int → Nat → Bool
  | _, 0 => false
  | p, k + 1 => P p || anP P (p + 1) k
theorem anP_iff (P : Int → Bool) : ∀ (k : Nat) (p : Int), anP P p k = true ↔ ∃ i, p ≤ i ∧ i < p + k ∧ P i = true
  | 0, p => by
    simp only [anP, Bool.false_eq_true, false_iff]
    intro ⟨i, h1, h2, _⟩
    omega
  | k + 1, p => by
    rw [anP, Bool.or_eq_true, anP_iff P k (p + 1)]
    constructor
    · rintro (h | ⟨i, h1, h2, h3⟩)
      · exact ⟨p, by omega, by omega, h⟩
      · exact ⟨i, by omega, by omega, h3⟩
    · intro ⟨i, h1, h2, h3⟩
      by_cases c : i = p
      · exact Or.inl (by rw [← c]; exact h3)
      · exact Or.inr ⟨i, by omega, by omega, h3⟩
theorem anP_add (P : Int → Bool) (p : Int) (a c : Nat) : anP P p (a + c) = (anP P p a || anP P (p + a) c) := by
  rw [Bool.eq_iff_iff, Bool.or_eq_true, anP_iff, anP_iff, anP_iff]
  constructor
  · intro ⟨i, h1, h2, h3⟩
    by_cases d : i < p + a
    · exact Or.inl ⟨i, h1, d, h3⟩
    · exact Or.inr ⟨i, by omega, by omega, h3⟩
  · rintro (⟨i, h1, h2, h3⟩ | ⟨i, h1, h2, h3⟩)
    · exact ⟨i, h1, by omega, h3⟩
    · exact ⟨i, by omega, by omega, h3⟩
theorem ttT_iff (n : Int) (V V2 : Int → Int) : ∀ (k : Nat) (p : Int), ttT n V V2 p k = true ↔ ∃ i, p ≤ i ∧ i < p + k ∧ (n ≤ i ∨ ¬ V2 i = V i)
  | 0, p => by
    simp only [ttT, Bool.false_eq_true, false_iff]
    intro ⟨i, h1, h2, _⟩
    omega
  | k + 1, p => by
    rw [ttT, Bool.or_eq_true, ttT_iff n V V2 k (p + 1)]
    have e : ((decide (n ≤ p) || !decide (V2 p = V p)) = true) ↔ (n ≤ p ∨ ¬ V2 p = V p) := by simp
    rw [e]
    constructor
    · rintro (h | ⟨i, h1, h2, h3⟩)
      · exact ⟨p, by omega, by omega, h⟩
      · exact ⟨i, by omega, by omega, h3⟩
    · intro ⟨i, h1, h2, h3⟩
      by_cases c : i = p
      · exact Or.inl (by rw [← c]; exact h3)
      · exact Or.inr ⟨i, by omega, by omega, h3⟩
theorem toP_iff {n : Int} {V : Int → Int} {n2 : Int} {V2 : Int → Int} {p : Int} : toP n V n2 V2 p = true ↔ (p < n2 ∧ (n ≤ p ∨ ¬ V2 p = V p)) ∨ (n2 ≤ p ∧ p < n) := by
  unfold toP; simp
theorem toP_tc {n n2 b j : Int} {V V2 : Int → Int} (hn : 0 ≤ n ∧ n ≤ 120) (hn2 : 0 ≤ n2 ∧ n2 ≤ 120) (hb : 2 ≤ b ∧ b ≤ 20) (hj : 0 ≤ j ∧ j < blN n2 b) : anP (toP n V n2 V2) (j * b) b.toNat = tcT b n V n2 V2 j := by
  have h1 := (blN_lt hn2 hb hj.1).mp hj.2
  have h2 := blN_in hn2 hb
  have h3 := mul_in (j := j) (b := b) (by omega) hb
  have e1 : (j + 1) * b = j * b + b := by rw [Int.add_mul, Int.one_mul]
  rw [Bool.eq_iff_iff, anP_iff]
  unfold tcT
  rw [Bool.or_eq_true, ttT_iff, decide_eq_true_eq]
  have eE : ∀ m : Int, blE m b j = if j * b + b < m then j * b + b else m := fun m => by unfold blE; rw [e1]
  rw [eE, eE]
  constructor
  · intro ⟨i, g1, g2, g3⟩
    rw [toP_iff] at g3
    rcases g3 with ⟨g4, g5⟩ | ⟨g4, g5⟩
    · refine Or.inl ⟨i, g1, ?_, g5⟩
      split <;> omega
    · refine Or.inr ?_
      split <;> split <;> omega
  · rintro (⟨i, g1, g2, g3⟩ | g)
    · refine ⟨i, g1, ?_, toP_iff.mpr (Or.inl ⟨?_, g3⟩)⟩
      · split at g2 <;> omega
      · split at g2 <;> omega
    · refine ⟨if j * b + b < n2 then j * b + b else n2, ?_, ?_, toP_iff.mpr (Or.inr ?_)⟩
      · split <;> omega
      · split at g <;> split at g <;> split <;> omega
      · split at g <;> split at g <;> split <;> omega
theorem inF_eq {T T2 : Int → Bool} : ∀ (k : Nat) (s : Bool) (j : Int), (∀ i, j ≤ i → i < j + k → T i = T2 i) → inF T s j k = inF T2 s j k
  | 0, s, j, _ => rfl
  | k + 1, s, j, h => by
    rw [inF, inF, h j (by omega) (by omega), inF_eq k _ (j + 1) (fun i h1 h2 => h i (by omega) (by omega))]
theorem ouF_eq {T T2 : Int → Bool} : ∀ (k : Nat) (j : Int), (∀ i, j ≤ i → i < j + k → T i = T2 i) → ouF T j k = ouF T2 j k
  | 0, j, _ => rfl
  | k + 1, j, h => by
    rw [ouF, ouF, inF_eq (k + 1) false j h, ouF_eq k (j + 1) (fun i h1 h2 => h i (by omega) (by omega))]
theorem bz_or1 (s : Bool) : bz (s = true) ||| 1 = 1 := by cases s <;> decide
theorem bz_or0 (s : Bool) : bz (s = true) ||| 0 = bz (s = true) := by cases s <;> decide
theorem fresh_I {f g : Nat → Int32} {n n2 : Nat} {V V2 : Int → Int} {b j : Int} (hf : Ar f n V) (hg : Ar g n2 V2) (hn : n ≤ 120) (hn2 : n2 ≤ 120) (hV : ∀ i : Int, 0 ≤ i → i < n → 0 ≤ V i ∧ V i < 1000) (hV2 : ∀ i : Int, 0 ≤ i → i < n2 → 0 ≤ V2 i ∧ V2 i < 1000) (hb : 2 ≤ b ∧ b ≤ 20) (hj : 0 ≤ j ∧ j ≤ 120) : ∀ (k F : Nat) (s : Bool) (p : Int), k < F → 0 ≤ p → (j + 1) * b = p + k → mL_fresh_L40 n n2 f g (zI b) (zI j) F (bz (s = true)) (zI p) = some (bz ((s || anP (toP n V n2 V2) p k) = true))
  | k, 0, s, p, h, _, _ => absurd h (Nat.not_lt_zero k)
  | 0, F + 1, s, p, _, h0, hk => by
    have h3 := mul_in (j := j + 1) (b := b) (by omega) hb
    rw [mL_fresh_L40, zI_a1, zI_mul, if_pos (show zI ((j + 1) * b) ≤ zI p by rw [zI_le (by omega) (by omega) (by omega) (by omega)]; omega)]
    rw [anP, Bool.or_false]
  | k + 1, F + 1, s, p, h, h0, hk => by
    have h3 := mul_in (j := j + 1) (b := b) (by omega) hb
    rw [mL_fresh_L40, zI_a1 j, zI_mul, if_neg (show ¬ zI ((j + 1) * b) ≤ zI p by rw [zI_le (by omega) (by omega) (by omega) (by omega)]; omega), n_z n2, n_z n, bz_or1, bz_or0, zI_a1 p]
    have r1 : ∀ (e : toP n V n2 V2 p = true), mL_fresh_L40 n n2 f g (zI b) (zI j) F 1 (zI (p + 1)) = some (bz ((s || anP (toP n V n2 V2) p (k + 1)) = true)) := fun e => by
      have := fresh_I hf hg hn hn2 hV hV2 hb hj k F true (p + 1) (by omega) (by omega) (by omega)
      rw [show bz (true = true) = 1 from rfl] at this
      rw [this, anP, e, Bool.true_or, Bool.or_true]
    have r0 : ∀ (e : ¬ toP n V n2 V2 p = true), mL_fresh_L40 n n2 f g (zI b) (zI j) F (bz (s = true)) (zI (p + 1)) = some (bz ((s || anP (toP n V n2 V2) p (k + 1)) = true)) := fun e => by
      rw [fresh_I hf hg hn hn2 hV hV2 hb hj k F s (p + 1) (by omega) (by omega) (by omega), anP, Bool.eq_false_iff.mpr e, Bool.false_or]
    by_cases c1 : (n2 : Int) ≤ p
    · rw [if_pos (show zI (n2 : Int) ≤ zI p by rw [zI_le (by omega) (by omega) (by omega) (by omega)]; exact c1), if_neg (show ¬ zI p < zI (n2 : Int) by rw [zI_lt (by omega) (by omega) (by omega) (by omega)]; omega)]
      by_cases c2 : (n : Int) ≤ p
      · rw [if_pos (show zI (n : Int) ≤ zI p by rw [zI_le (by omega) (by omega) (by omega) (by omega)]; exact c2)]
        exact r0 (fun e => by rw [toP_iff] at e; omega)
      · rw [if_neg (show ¬ zI (n : Int) ≤ zI p by rw [zI_le (by omega) (by omega) (by omega) (by omega)]; exact c2)]
        exact r1 (toP_iff.mpr (by omega))
    · rw [if_neg (show ¬ zI (n2 : Int) ≤ zI p by rw [zI_le (by omega) (by omega) (by omega) (by omega)]; exact c1)]
      by_cases c2 : (n : Int) ≤ p
      · rw [if_pos (show zI (n : Int) ≤ zI p by rw [zI_le (by omega) (by omega) (by omega) (by omega)]; exact c2)]
        exact r1 (toP_iff.mpr (by omega))
      · have a1 := hV p h0 (by omega)
        have a2 := hV2 p h0 (by omega)
        rw [if_neg (show ¬ zI (n : Int) ≤ zI p by rw [zI_le (by omega) (by omega) (by omega) (by omega)]; exact c2), rd_A hf h0 (by omega) (by omega) (by omega), sob, rd_A hg h0 (by omega) (by omega) (by omega), sob]
        by_cases c3 : V p = V2 p
        · rw [if_neg (show ¬ ¬ zI (V p) = zI (V2 p) by rw [c3]; exact not_not_intro rfl), if_pos (show zI p < zI (n2 : Int) by rw [zI_lt (by omega) (by omega) (by omega) (by omega)]; omega)]
          exact r0 (fun e => by
            rw [toP_iff] at e
            rcases e with ⟨_, e | e⟩ | e
            · omega
            · exact e c3.symm
            · omega)
        · rw [if_pos (show ¬ zI (V p) = zI (V2 p) by rw [zI_eq (by omega) (by omega) (by omega) (by omega)]; exact c3)]
          exact r1 (toP_iff.mpr (Or.inl ⟨by omega, Or.inr (fun e => c3 e.symm)⟩))
theorem fresh_J {f g : Nat → Int32} {n n2 : Nat} {V V2 : Int → Int} {b i B : Int} (hf : Ar f n V) (hg : Ar g n2 V2) (hn : n ≤ 120) (hn2 : n2 ≤ 120) (hV : ∀ i : Int, 0 ≤ i → i < n → 0 ≤ V i ∧ V i < 1000) (hV2 : ∀ i : Int, 0 ≤ i → i < n2 → 0 ≤ V2 i ∧ V2 i < 1000) (hb : 2 ≤ b ∧ b ≤ 20) (hi : 0 ≤ i) (hB : B ≤ 120) (hBb : B * b ≤ 200) : ∀ (k F : Nat) (a j : Int) (s : Bool), k < F → i ≤ j → B = j + k → s = anP (toP n V n2 V2) (i * b) ((j - i) * b).toNat → mL_fresh_L25 n n2 f g (zI b) (zI B) (zI i) F (zI a) (zI j) = some (zI (a + inF (fun j => anP (toP n V n2 V2) (j * b) b.toNat) s j k))
  | k, 0, a, j, s, h, _, _, _ => absurd h (Nat.not_lt_zero k)
  | 0, F + 1, a, j, s, _, h0, hk, hs => by
    rw [mL_fresh_L25, if_pos (show zI B ≤ zI j by rw [zI_le (by omega) (by omega) (by omega) (by omega)]; omega), inF, Int.add_zero]
  | k + 1, F + 1, a, j, s, h, h0, hk, hs => by
    have h1 := mul_in (j := i) (b := b) (by omega) hb
    have h2 := mul_in (j := j + 1) (b := b) (by omega) hb
    have h3 := mul_in (j := j - i) (b := b) (by omega) hb
    have h4 : (j + 1) * b ≤ B * b := Int.mul_le_mul_of_nonneg_right (by omega) (by omega)
    have e1 : (j + 1) * b = i * b + (j - i) * b + b := by rw [← Int.add_mul, show i + (j - i) = j by omega, Int.add_mul, Int.one_mul]
    have e2 : i * b + ((((j - i) * b).toNat : Nat) : Int) = j * b := by rw [Int.toNat_of_nonneg h3.1, ← Int.add_mul, show i + (j - i) = j by omega]
    have hI := fresh_I hf hg hn hn2 hV hV2 hb (j := j) (by omega) (((j - i) * b).toNat + b.toNat) FU false (i * b) (by rw [FU_e]; omega) h1.1 (by omega)
    rw [show bz (false = true) = zI 0 from rfl, Bool.false_or, anP_add, e2, ← hs] at hI
    have hs2 : (s || anP (toP n V n2 V2) (j * b) b.toNat) = anP (toP n V n2 V2) (i * b) ((j + 1 - i) * b).toNat := by
      rw [show ((j + 1 - i) * b).toNat = ((j - i) * b).toNat + b.toNat by
        have : (j + 1 - i) * b = (j - i) * b + b := by rw [show j + 1 - i = (j - i) + 1 by omega, Int.add_mul, Int.one_mul]
        omega, anP_add, e2, hs]
    rw [mL_fresh_L25, if_neg (show ¬ zI B ≤ zI j by rw [zI_le (by omega) (by omega) (by omega) (by omega)]; omega), zI_mul, show (0 : Int32) = zI 0 from rfl, hI, sob, inF]
    have ih := fun a' => fresh_J hf hg hn hn2 hV hV2 hb hi hB hBb k F a' (j + 1) (s || anP (toP n V n2 V2) (j * b) b.toNat) (by omega) (by omega) (by omega) hs2
    by_cases c : (s || anP (toP n V n2 V2) (j * b) b.toNat) = true
    · rw [c] at ih ⊢
      rw [if_neg (show ¬ bz (true = true) = zI 0 by decide), zI_a1, zI_a1, ih (a + 1), if_pos rfl, Int.add_assoc]
    · rw [Bool.eq_false_iff.mpr c] at ih ⊢
      rw [if_pos (show bz (false = true) = zI 0 from rfl), ← z_0, zI_a0, zI_a1, ih a, if_neg (by decide), Int.zero_add]
theorem fresh_K {f g : Nat → Int32} {n n2 : Nat} {V V2 : Int → Int} {b B : Int} (hf : Ar f n V) (hg : Ar g n2 V2) (hn : n ≤ 120) (hn2 : n2 ≤ 120) (hV : ∀ i : Int, 0 ≤ i → i < n → 0 ≤ V i ∧ V i < 1000) (hV2 : ∀ i : Int, 0 ≤ i → i < n2 → 0 ≤ V2 i ∧ V2 i < 1000) (hb : 2 ≤ b ∧ b ≤ 20) (hB : B ≤ 120) (hBb : B * b ≤ 200) : ∀ (k F : Nat) (a i : Int), k < F → 0 ≤ i → B = i + k → mL_fresh_L15 n n2 f g (zI b) (zI B) F (zI a) (zI i) = some (zI (a + ouF (fun j => anP (toP n V n2 V2) (j * b) b.toNat) i k))
  | k, 0, a, i, h, _, _ => absurd h (Nat.not_lt_zero k)
  | 0, F + 1, a, i, _, h0, hk => by
    rw [mL_fresh_L15, if_pos (show zI B ≤ zI i by rw [zI_le (by omega) (by omega) (by omega) (by omega)]; omega), ouF, Int.add_zero]
  | k + 1, F + 1, a, i, h, h0, hk => by
    rw [mL_fresh_L15, if_neg (show ¬ zI B ≤ zI i by rw [zI_le (by omega) (by omega) (by omega) (by omega)]; omega), fresh_J hf hg hn hn2 hV hV2 hb h0 hB hBb (k + 1) FU a i false (by rw [FU_e]; omega) (by omega) hk (by rw [show ((i - i) * b).toNat = 0 by rw [Int.sub_self, Int.zero_mul]; rfl]; rfl), sob, zI_a1, fresh_K hf hg hn hn2 hV hV2 hb hB hBb k F _ (i + 1) (by omega) (by omega) (by omega), ouF, Int.add_assoc]
theorem fresh_z {f g : Nat → Int32} {n n2 : Nat} {V V2 : Int → Int} {b : Int} (hf : Ar f n V) (hg : Ar g n2 V2) (hn : n ≤ 120) (hn2 : n2 ≤ 120) (hV : ∀ i : Int, 0 ≤ i → i < n → 0 ≤ V i ∧ V i < 1000) (hV2 : ∀ i : Int, 0 ≤ i → i < n2 → 0 ≤ V2 i ∧ V2 i < 1000) (hb : 2 ≤ b ∧ b ≤ 20) : mL_fresh n n2 f g (zI b) = some (zI (ouF (tcT b n V n2 V2) 0 (blN n2 b).toNat)) := by
  have h2 := blN_in (n := n2) (b := b) (by omega) hb
  unfold mL_fresh
  rw [n_z, zI_add, z_1, zI_sub, idv_z (by omega) (by omega) (by omega) (by omega), sob, show ((n2 : Int) + b - 1) / b = blN n2 b from rfl, show (0 : Int32) = zI 0 from rfl, fresh_K hf hg hn hn2 hV hV2 hb h2.1.2 (by omega) (blN n2 b).toNat FU 0 0 (by rw [FU_e]; omega) (by omega) (by omega), sob, Int.zero_add]
  rw [ouF_eq (blN n2 b).toNat 0 (fun j h3 h4 => toP_tc (n := n) (n2 := n2) (V := V) (V2 := V2) (by omega) (by omega) hb ⟨h3, by omega⟩)]
