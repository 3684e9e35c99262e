/-! what a script tells: cells, bounds -/
theorem n_z (k : Nat) : nI k = zI (k : Int) := Int32.ofInt_eq_ofNat.symm
theorem n_zt {z : Int} (h : 0 ≤ z) : zI z = nI z.toNat := by rw [n_z, Int.toNat_of_nonneg h]
theorem in_z (x : Int32) {m : Int} (h0 : 0 < m) (hm : m < 100000) : ∃ z : Int, (0 ≤ z ∧ z < m) ∧ mL_in x (zI m) = some (zI z) := by
  obtain ⟨j, hj, ej⟩ := pk_andE x (m := 2147483647) 31 (by decide)
  unfold mL_in
  rw [ej, n_z, irm_z (by omega) (by omega) h0 (by omega), sob]
  exact ⟨(j : Int) % m, ⟨Int.emod_nonneg _ (by omega), Int.emod_lt_of_pos _ h0⟩, rfl⟩
theorem idv_c (x : Int32) {y : Int32} (h : ¬ y = 0) : idv x y = some (x / y) := if_neg h
theorem cell_z (xs : Nat → Int32) {nS : Nat} (hS : nS ≤ 260) {k : Int} (h0 : 0 ≤ k) (h1 : k < 100000) : ∃ x, mL_cell xs nS (zI k) = some x := by
  unfold mL_cell
  by_cases c : nI nS ≤ zI k
  · rw [if_pos c]; exact ⟨_, rfl⟩
  · rw [if_neg c]
    rw [n_z, zI_le (by omega) (by omega) (by omega) (by omega)] at c
    rw [rd_in h0 (by omega) (by omega), sob]
    exact ⟨_, rfl⟩
theorem many_z (xs : Nat → Int32) {nS : Nat} (hS : nS ≤ 260) : ∃ m : Nat, (3 ≤ m ∧ m ≤ 20) ∧ mL_many xs nS = some (nI m) := by
  obtain ⟨x, hx⟩ := cell_z xs hS (k := 0) (by omega) (by omega)
  obtain ⟨z, hz, e⟩ := in_z x (m := 18) (by omega) (by omega)
  unfold mL_many
  rw [show (0 : Int32) = zI 0 from rfl, hx, sob, show (18 : Int32) = zI 18 from rfl, e, sob, z_3, zI_add, n_zt (by omega)]
  exact ⟨_, by omega, rfl⟩
theorem block_z (xs : Nat → Int32) {nS : Nat} (hS : nS ≤ 260) : ∃ m : Nat, (2 ≤ m ∧ m ≤ 6) ∧ mL_block xs nS = some (nI m) := by
  obtain ⟨x, hx⟩ := cell_z xs hS (k := 0) (by omega) (by omega)
  obtain ⟨z, hz, e⟩ := in_z (x / 32) (m := 5) (by omega) (by omega)
  unfold mL_block
  rw [show (0 : Int32) = zI 0 from rfl, hx, sob, idv_c _ (by decide), sob, show (5 : Int32) = zI 5 from rfl, e, sob, z_2, zI_add, n_zt (by omega)]
  exact ⟨_, by omega, rfl⟩
theorem ties_z (xs : Nat → Int32) {nS : Nat} (hS : nS ≤ 260) : ∃ m : Nat, m < 4 ∧ mL_ties xs nS = some (nI m) := by
  obtain ⟨x, hx⟩ := cell_z xs hS (k := 0) (by omega) (by omega)
  obtain ⟨z, hz, e⟩ := in_z (x / 256) (m := 4) (by omega) (by omega)
  unfold mL_ties
  rw [show (0 : Int32) = zI 0 from rfl, hx, sob, idv_c _ (by decide), sob, show (4 : Int32) = zI 4 from rfl, e, sob, n_zt (by omega)]
  exact ⟨_, by omega, rfl⟩
theorem kinds_z (xs : Nat → Int32) {nS : Nat} (hS : nS ≤ 260) : ∃ m : Int, (2 ≤ m ∧ m ≤ 7) ∧ mL_kinds xs nS = some (zI m) := by
  obtain ⟨x, hx⟩ := cell_z xs hS (k := 0) (by omega) (by omega)
  obtain ⟨z, hz, e⟩ := in_z (x / 1024) (m := 6) (by omega) (by omega)
  unfold mL_kinds
  rw [show (0 : Int32) = zI 0 from rfl, hx, sob, idv_c _ (by decide), sob, show (6 : Int32) = zI 6 from rfl, e, sob, z_2, zI_add]
  exact ⟨_, by omega, rfl⟩
theorem value_z (xs : Nat → Int32) {nS : Nat} (hS : nS ≤ 260) (k : Nat) (hk : k < 20) : ∃ v : Nat, v < 7 ∧ mL_value xs nS (nI k) = some (nI v) := by
  obtain ⟨x, hx⟩ := cell_z xs hS (k := 1 + (k : Int) / 3) (by omega) (by omega)
  obtain ⟨kd, hkd, ek⟩ := kinds_z xs hS
  unfold mL_value
  rw [n_z, z_3, idv_z (by omega) (by omega) (by omega) (by omega), sob, z_1, zI_add, hx, sob, irm_z (by omega) (by omega) (by omega) (by omega), sob, ek, sob]
  obtain ⟨z, hz, e⟩ := in_z (x >>> ((8 * zI ((k : Int) % 3)) &&& 31)) (m := kd) (by omega) (by omega)
  rw [e, sob, n_zt (by omega)]
  exact ⟨_, by omega, rfl⟩
theorem weight_z (xs : Nat → Int32) {nS : Nat} (hS : nS ≤ 260) (k : Nat) (hk : k < 20) : ∃ v : Nat, (1 ≤ v ∧ v ≤ 3) ∧ mL_weight xs nS (nI k) = some (nI v) := by
  obtain ⟨x, hx⟩ := cell_z xs hS (k := 1 + (k : Int) / 3) (by omega) (by omega)
  unfold mL_weight
  rw [n_z, z_3, idv_z (by omega) (by omega) (by omega) (by omega), sob, z_1, zI_add, hx, sob, irm_z (by omega) (by omega) (by omega) (by omega), sob]
  obtain ⟨z, hz, e⟩ := in_z (x >>> (((8 * zI ((k : Int) % 3)) + 4) &&& 31)) (m := 3) (by omega) (by omega)
  rw [e, sob, zI_add, n_zt (by omega)]
  exact ⟨_, by omega, rfl⟩
/-! rows alike -/
theorem isSame_L {f g : Nat → Int32} {n : Nat} {V V2 : Int → Int} (hf : Ar f n V) (hg : Ar g n V2) (hn : n ≤ 1000) (hV : ∀ i : Int, 0 ≤ i → i < n → -1000 ≤ V i ∧ V i < 1000) (hV2 : ∀ i : Int, 0 ≤ i → i < n → -1000 ≤ V2 i ∧ V2 i < 1000) : ∀ (k F : Nat) (p : Int), k < F → 0 ≤ p → (n : Int) = p + k → (mL_isSame_L11 n n f g F (zI p) = some 1 ∧ ∀ i, p ≤ i → i < n → V i = V2 i) ∨ (mL_isSame_L11 n n f g F (zI p) = some 0 ∧ ¬ ∀ i, p ≤ i → i < n → V i = V2 i)
  | k, 0, p, h, _, _ => absurd h (Nat.not_lt_zero k)
  | 0, F + 1, p, _, h0, hk => by
    rw [mL_isSame_L11, n_z, if_pos (show zI (n : Int) ≤ zI p by rw [zI_le (by omega) (by omega) (by omega) (by omega)]; omega)]
    exact Or.inl ⟨rfl, fun i h1 h2 => by omega⟩
  | k + 1, F + 1, p, h, h0, hk => by
    have a1 := hV p h0 (by omega)
    have a2 := hV2 p h0 (by omega)
    rw [mL_isSame_L11, n_z, if_neg (show ¬ zI (n : Int) ≤ zI p by rw [zI_le (by omega) (by omega) (by omega) (by omega)]; omega), rd_A hf h0 (by omega) (by omega) (by omega), sob, rd_A hg h0 (by omega) (by omega) (by omega), sob]
    by_cases c : V p = V2 p
    · rw [if_pos (show zI (V p) = zI (V2 p) by rw [c]), zI_a1]
      rcases isSame_L hf hg hn hV hV2 k F (p + 1) (by omega) (by omega) (by omega) with ⟨e, q⟩ | ⟨e, q⟩
      · exact Or.inl ⟨e, fun i h1 h2 => by
          by_cases d : i = p
          · rw [d]; exact c
          · exact q i (by omega) h2⟩
      · exact Or.inr ⟨e, fun z => q (fun i h1 h2 => z i (by omega) h2)⟩
    · rw [if_neg (show ¬ zI (V p) = zI (V2 p) by rw [zI_eq (by omega) (by omega) (by omega) (by omega)]; exact c)]
      exact Or.inr ⟨rfl, fun z => c (z p (by omega) (by omega))⟩
theorem isSame_z {f g : Nat → Int32} {n n2 : Nat} {V V2 : Int → Int} (hf : Ar f n V) (hg : Ar g n2 V2) (hn : n ≤ 1000) (hn2 : n2 ≤ 1000) (hV : ∀ i : Int, 0 ≤ i → i < n → -1000 ≤ V i ∧ V i < 1000) (hV2 : ∀ i : Int, 0 ≤ i → i < n2 → -1000 ≤ V2 i ∧ V2 i < 1000) : (mL_isSame n n2 f g = some 1 ∧ n = n2 ∧ ∀ i : Int, 0 ≤ i → i < n → V i = V2 i) ∨ (mL_isSame n n2 f g = some 0 ∧ ¬ (n = n2 ∧ ∀ i : Int, 0 ≤ i → i < n → V i = V2 i)) := by
  unfold mL_isSame
  by_cases c : n = n2
  · subst c
    rw [if_pos rfl, show (0 : Int32) = zI 0 from rfl]
    rcases isSame_L hf hg hn hV hV2 n FU 0 (by rw [FU_e]; omega) (by omega) (by omega) with ⟨e, q⟩ | ⟨e, q⟩
    · exact Or.inl ⟨e, rfl, q⟩
    · exact Or.inr ⟨e, fun z => q z.2⟩
  · rw [if_neg (show ¬ nI n = nI n2 by rw [nI_eq (by omega) (by omega)]; exact c)]
    exact Or.inr ⟨rfl, fun z => c z.1⟩
/-! how many are other -/
theorem other_L {f g : Nat → Int32} {n n2 : Nat} {V V2 : Int → Int} (hf : Ar f n V) (hg : Ar g n2 V2) (hn : n ≤ 1000) (hn2 : n2 ≤ 1000) (hV : ∀ i : Int, 0 ≤ i → i < n → 0 ≤ V i ∧ V i < 1000) (hV2 : ∀ i : Int, 0 ≤ i → i < n2 → 0 ≤ V2 i ∧ V2 i < 1000) : ∀ (k F : Nat) (a p : Int), k < F → 0 ≤ p → (n : Int) = p + k → ∃ z, mL_does_L24 n n2 f g F (zI a) (zI p) = some z ∧ (n = n2 → z = zI (a + otT n V V2 p k))
  | k, 0, a, p, h, _, _ => absurd h (Nat.not_lt_zero k)
  | 0, F + 1, a, p, _, h0, hk => by
    rw [mL_does_L24, n_z, if_pos (show zI (n : Int) ≤ zI p by rw [zI_le (by omega) (by omega) (by omega) (by omega)]; omega)]
    exact ⟨_, rfl, fun _ => by show zI a = zI (a + 0); rw [Int.add_zero]⟩
  | k + 1, F + 1, a, p, h, h0, hk => by
    rw [mL_does_L24, n_z n, if_neg (show ¬ zI (n : Int) ≤ zI p by rw [zI_le (by omega) (by omega) (by omega) (by omega)]; omega), n_z n2]
    by_cases d : (n2 : Int) ≤ p
    · rw [if_pos (show zI (n2 : Int) ≤ zI p by rw [zI_le (by omega) (by omega) (by omega) (by omega)]; exact d)]
      exact ⟨_, rfl, fun e => by omega⟩
    · rw [if_neg (show ¬ zI (n2 : Int) ≤ zI p by rw [zI_le (by omega) (by omega) (by omega) (by omega)]; exact d)]
      have a1 := hV p h0 (by omega)
      have a2 := hV2 p h0 (by omega)
      rw [rd_A hf h0 (by omega) (by omega) (by omega), sob, rd_A hg h0 (by omega) (by omega) (by omega), sob]
      have eo : otT n V V2 p (k + 1) = (if V2 p = V p then 0 else 1) + otT n V V2 (p + 1) k := by
        show (if (decide ((n : Int) ≤ p) || !decide (V2 p = V p)) = true then (1 : Int) else 0) + _ = _
        rw [decide_eq_false (show ¬ (n : Int) ≤ p by omega), Bool.false_or]
        by_cases c : V2 p = V p
        · rw [if_pos c, decide_eq_true c]; rfl
        · rw [if_neg c, decide_eq_false c]; rfl
      by_cases c : V p = V2 p
      · rw [if_neg (show ¬ ¬ zI (V p) = zI (V2 p) by rw [c]; exact not_not_intro rfl), zI_a0, zI_a1]
        obtain ⟨z, e, q⟩ := other_L hf hg hn hn2 hV hV2 k F a (p + 1) (by omega) (by omega) (by omega)
        exact ⟨z, e, fun h => by rw [q h, eo, if_pos c.symm, Int.zero_add]⟩
      · rw [if_pos (show ¬ zI (V p) = zI (V2 p) by rw [zI_eq (by omega) (by omega) (by omega) (by omega)]; exact c), zI_a1, zI_a1]
        obtain ⟨z, e, q⟩ := other_L hf hg hn hn2 hV hV2 k F (a + 1) (p + 1) (by omega) (by omega) (by omega)
        exact ⟨z, e, fun h => by rw [q h, eo, if_neg (fun h => c h.symm), Int.add_assoc]⟩
theorem other_z {f g : Nat → Int32} {n n2 : Nat} {V V2 : Int → Int} (hf : Ar f n V) (hg : Ar g n2 V2) (hn : n ≤ 1000) (hn2 : n2 ≤ 1000) (hV : ∀ i : Int, 0 ≤ i → i < n → 0 ≤ V i ∧ V i < 1000) (hV2 : ∀ i : Int, 0 ≤ i → i < n2 → 0 ≤ V2 i ∧ V2 i < 1000) : ∃ z, mL_does_L24 n n2 f g FU 0 0 = some z ∧ (n = n2 → z = zI (otT n V V2 0 n)) := by
  obtain ⟨z, e, q⟩ := other_L hf hg hn hn2 hV hV2 n FU 0 0 (by rw [FU_e]; omega) (by omega) (by omega)
  exact ⟨z, e, fun h => by rw [q h, Int.zero_add]⟩
