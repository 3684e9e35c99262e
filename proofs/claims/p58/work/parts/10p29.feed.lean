/-! PURE ROWS. feed: the bytes of a number, both ways (the rows up to b_sshr: kit/laws/BITS.to-paste, pasted) -/
def bt (x : Int32) (i : Nat) : Bool := x.toBitVec.getLsbD i
theorem b_ext {x y : Int32} (h : ∀ i, i < 32 → bt x i = bt y i) : x = y := Int32.toBitVec_inj.mp (BitVec.eq_of_getLsbD_eq (fun i hi => h i hi))
theorem b_or (x y : Int32) (i : Nat) : bt (x ||| y) i = (bt x i || bt y i) := by unfold bt; rw [Int32.toBitVec_or, BitVec.getLsbD_or]
theorem b_and (x y : Int32) (i : Nat) : bt (x &&& y) i = (bt x i && bt y i) := by unfold bt; rw [Int32.toBitVec_and, BitVec.getLsbD_and]
theorem b_xor (x y : Int32) (i : Nat) : bt (x ^^^ y) i = (bt x i ^^ bt y i) := by unfold bt; rw [Int32.toBitVec_xor, BitVec.getLsbD_xor]
theorem b_big {x : Int32} {i : Nat} (h : 32 ≤ i) : bt x i = false := BitVec.getLsbD_of_ge _ _ h
theorem b_255 (i : Nat) : bt 255 i = decide (i < 8) := by
  rcases Nat.lt_or_ge i 32 with h | h
  · exact (by decide +kernel : ∀ i, i < 32 → bt 255 i = decide (i < 8)) i h
  · rw [b_big h, decide_eq_false (by omega)]
theorem b_65535 (i : Nat) : bt 65535 i = decide (i < 16) := by
  rcases Nat.lt_or_ge i 32 with h | h
  · exact (by decide +kernel : ∀ i, i < 32 → bt 65535 i = decide (i < 16)) i h
  · rw [b_big h, decide_eq_false (by omega)]
theorem b_m1 : ∀ i, i < 32 → bt (-1) i = true := by decide +kernel
theorem b_0 (i : Nat) : bt 0 i = false := BitVec.getLsbD_zero
theorem s_l : ∀ n, n < 32 → ((nI n &&& 31).toBitVec.smod 32).toNat = n := by decide +kernel
theorem s_u : ∀ n, n < 32 → (((nI n).toUInt32 &&& Int32.toUInt32 31).toBitVec % 32).toNat = n := by decide +kernel
theorem b_shl (n : Nat) (hn : n < 32) (x : Int32) {i : Nat} (hi : i < 32) : bt (x <<< (nI n &&& 31)) i = (decide (n ≤ i) && bt x (i - n)) := by
  unfold bt
  rw [Int32.toBitVec_shiftLeft]
  show (x.toBitVec <<< ((nI n &&& 31).toBitVec.smod 32).toNat).getLsbD i = _
  rw [s_l n hn, BitVec.getLsbD_shiftLeft]
  rcases Nat.lt_or_ge i n with h | h
  · simp [h, Nat.not_le.mpr h]
  · simp [hi, h, Nat.not_lt.mpr h]
theorem b_ushr (n : Nat) (hn : n < 32) (x : Int32) (i : Nat) : bt ((x.toUInt32 >>> ((nI n).toUInt32 &&& Int32.toUInt32 31)).toInt32) i = bt x (n + i) := by
  show (x.toUInt32 >>> ((nI n).toUInt32 &&& Int32.toUInt32 31)).toBitVec.getLsbD i = x.toUInt32.toBitVec.getLsbD (n + i)
  rw [UInt32.toBitVec_shiftRight]
  show (x.toUInt32.toBitVec >>> (((nI n).toUInt32 &&& Int32.toUInt32 31).toBitVec % 32).toNat).getLsbD i = _
  rw [s_u n hn, BitVec.getLsbD_ushiftRight]
theorem b_sshr (n : Nat) (hn : n < 32) (x : Int32) {i : Nat} (hi : i < 32) : bt (x >>> (nI n &&& 31)) i = if n + i < 32 then bt x (n + i) else bt x 31 := by
  unfold bt
  rw [Int32.toBitVec_shiftRight]
  show (x.toBitVec.sshiftRight ((nI n &&& 31).toBitVec.smod 32).toNat).getLsbD i = _
  rw [s_l n hn, BitVec.getLsbD_sshiftRight, BitVec.msb_eq_getLsbD_last]
  simp [hi]
/-- the byte of a number above n bits -/
def byT (x : Int32) (n : Nat) : Int := ((x >>> (nI n &&& 31)) &&& 255).toInt
theorem by_eq (x : Int32) {n : Nat} (hn : n ≤ 24) : (x.toUInt32 >>> ((nI n).toUInt32 &&& Int32.toUInt32 31)).toInt32 &&& 255 = (x >>> (nI n &&& 31)) &&& 255 := b_ext (fun i hi => by
  rw [b_and, b_and, b_255, b_ushr n (by omega), b_sshr n (by omega) x hi]
  by_cases c : i < 8
  · rw [if_pos (by omega)]
  · rw [decide_eq_false c, Bool.and_false, Bool.and_false])
theorem and255 (y : Int32) : 0 ≤ (y &&& 255).toInt ∧ (y &&& 255).toInt < 256 := by
  have h1 : (y &&& 255).toBitVec.toNat ≤ 255 := by
    rw [Int32.toBitVec_and, BitVec.toNat_and]
    exact Nat.and_le_right
  have h2 : (y &&& 255).toInt = ((y &&& 255).toBitVec.toNat : Int) := BitVec.toInt_eq_toNat_of_lt (by omega)
  omega
theorem byT_in (x : Int32) (n : Nat) : 0 ≤ byT x n ∧ byT x n < 256 := and255 _
theorem by_c (x : Int32) {n : Nat} (hn : n ≤ 24) : vp_nar .char ((Int32.toUInt32 ((Int32.toUInt32 x >>> (Int32.toUInt32 (nI n) &&& Int32.toUInt32 31)).toInt32 &&& 255) % 65536).toInt32) = zI (byT x n) := by
  rw [pk_vc, sc_c2, by_eq x hn]
  exact (zI_of _).symm
theorem by_r (x : Int32) (n : Nat) : (x >>> (nI n &&& 31)) &&& 255 = zI (byT x n) := (zI_of _).symm
def TapB (tape : TapT) (fe : Int) (B : Int → Int) : Prop := (0 ≤ fe ∧ fe ≤ 900) ∧ tape.2.1 = zI fe ∧ Ar tape.1 fe B
theorem X4_put_z {tape : TapT} {fe : Int} {B : Int → Int} (x : Int32) (h : TapB tape fe B) (hf : fe + 4 ≤ 900) (hB : ∀ c, 0 ≤ c → c < 4 → B (fe + c) = byT x (24 - 8 * c).toNat) : ∃ tape', mX4_put tape x = some tape' ∧ TapB tape' (fe + 4) B := by
  obtain ⟨h0, h1, h2⟩ := h
  have b0 := hB 0 (by omega) (by omega)
  have b1 := hB 1 (by omega) (by omega)
  have b2 := hB 2 (by omega) (by omega)
  have b3 := hB 3 (by omega) (by omega)
  rw [Int.add_zero, show ((24 : Int) - 8 * 0).toNat = 24 from rfl] at b0
  rw [show ((24 : Int) - 8 * 1).toNat = 16 from rfl] at b1
  rw [show ((24 : Int) - 8 * 2).toNat = 8 from rfl] at b2
  rw [show ((24 : Int) - 8 * 3).toNat = 0 from rfl] at b3
  obtain ⟨g, hg⟩ : ∃ g : Nat, FU = g + 5 := ⟨1995, rfl⟩
  have c0 := by_c x (n := 24) (by omega)
  have c1 := by_c x (n := 16) (by omega)
  have c2 := by_c x (n := 8) (by omega)
  have c3 := by_c x (n := 0) (by omega)
  rw [← b0] at c0
  rw [← b1] at c1
  rw [← b2] at c2
  rw [← b3] at c3
  have n0 : ¬ (nI 24 < 0) := by decide
  have n1 : ¬ (nI 16 < 0) := by decide
  have n2 : ¬ (nI 8 < 0) := by decide
  have n3 : ¬ (nI 0 < 0) := by decide
  have n4 : nI 0 + (-8) < 0 := by decide
  have s0 : nI 24 + (-8) = nI 16 := by decide
  have s1 : nI 16 + (-8) = nI 8 := by decide
  have s2 : nI 8 + (-8) = nI 0 := by decide
  have a1 := Ar_ext h2 h0.1
  have a2 := Ar_ext a1 (by omega)
  have a3 := Ar_ext a2 (by omega)
  have a4 := Ar_ext a3 (by omega)
  rw [show fe + 1 + 1 = fe + 2 by omega] at a2 a3 a4
  rw [show fe + 2 + 1 = fe + 3 by omega] at a3 a4
  rw [show fe + 3 + 1 = fe + 4 by omega] at a4
  refine ⟨(upd (upd (upd (upd tape.1 fe.toNat (zI (B fe))) (fe + 1).toNat (zI (B (fe + 1)))) (fe + 2).toNat (zI (B (fe + 2)))) (fe + 3).toNat (zI (B (fe + 3))), zI (fe + 4), tape.2.2), ?_, ⟨by omega, rfl, a4⟩⟩
  · unfold mX4_put
    rw [hg, show (24 : Int32) = nI 24 from rfl]
    rw [mX4_put_L3, if_neg n0, c0, h1, wr_in h0.1 (by omega) (by omega), sob, s0]
    rw [mX4_put_L3, if_neg n1, c1]
    simp only [zI_a1]
    rw [wr_in (by omega) (by omega) (by omega), sob, s1]
    rw [mX4_put_L3, if_neg n2, c2]
    simp only [zI_a1]
    rw [show fe + 1 + 1 = fe + 2 by omega, wr_in (by omega) (by omega) (by omega), sob, s2]
    rw [mX4_put_L3, if_neg n3, c3]
    simp only [zI_a1]
    rw [show fe + 2 + 1 = fe + 3 by omega, wr_in (by omega) (by omega) (by omega), sob]
    rw [mX4_put_L3, if_pos n4, show fe + 3 + 1 = fe + 4 by omega, sob]
/-- the twenty bytes -/
def fdB (x1 x2 x3 x4 x5 : Int32) (k : Int) : Int := byT (if k < 4 then x1 else if k < 8 then x2 else if k < 12 then x3 else if k < 16 then x4 else x5) (24 - 8 * (k % 4)).toNat
def feX (B : Int → Int) (fe : Int) (x1 x2 x3 x4 x5 : Int32) : Int → Int := fun i => if i < fe then B i else fdB x1 x2 x3 x4 x5 (i - fe)
theorem X6_feed_L {taped : Int} {x1 x2 x3 x4 x5 : Int32} {B : Int → Int} (ht : 0 ≤ taped ∧ taped ≤ 880) : ∀ (k f : Nat) (p : Int) (tp : FnT), k < f → 0 ≤ p → 20 = p + k → Ar tp (taped + p) (feX B taped x1 x2 x3 x4 x5) → ∃ tp', mX6_feed_L20 (zI taped) x1 x2 x3 x4 x5 f (zI p) tp = some tp' ∧ Ar tp' (taped + 20) (feX B taped x1 x2 x3 x4 x5)
  | k, 0, p, tp, h, _, _, _ => absurd h (Nat.not_lt_zero k)
  | 0, f + 1, p, tp, _, hp, hk, h1 => by
    rw [mX6_feed_L20, if_pos (show (20 : Int32) ≤ zI p by rw [z_20, zI_le (by omega) (by omega) (by omega) (by omega)]; omega)]
    exact ⟨tp, rfl, h1.sub (by omega)⟩
  | k + 1, f + 1, p, tp, h, hp, hk, h1 => by
    have hsel : (if (4 : Int32) ≤ zI p then if (8 : Int32) ≤ zI p then if (12 : Int32) ≤ zI p then if (16 : Int32) ≤ zI p then some x5 else some x4 else some x3 else some x2 else some x1) = some (if p < 4 then x1 else if p < 8 then x2 else if p < 12 then x3 else if p < 16 then x4 else x5) := by
      rw [show (4 : Int32) = zI 4 from rfl, show (8 : Int32) = zI 8 from rfl, show (12 : Int32) = zI 12 from rfl, show (16 : Int32) = zI 16 from rfl]
      simp (disch := omega) only [zI_le]
      by_cases c1 : p < 4
      · rw [if_neg (by omega), if_pos c1]
      · rw [if_pos (by omega), if_neg c1]
        by_cases c2 : p < 8
        · rw [if_neg (by omega), if_pos c2]
        · rw [if_pos (by omega), if_neg c2]
          by_cases c3 : p < 12
          · rw [if_neg (by omega), if_pos c3]
          · rw [if_pos (by omega), if_neg c3]
            by_cases c4 : p < 16
            · rw [if_neg (by omega), if_pos c4]
            · rw [if_pos (by omega), if_neg c4]
    have hval : feX B taped x1 x2 x3 x4 x5 (taped + p) = byT (if p < 4 then x1 else if p < 8 then x2 else if p < 12 then x3 else if p < 16 then x4 else x5) (24 - 8 * (p % 4)).toNat := by
      unfold feX fdB
      rw [if_neg (by omega), show taped + p - taped = p by omega]
    have hsh : ((24 : Int32) - 8 * zI (p % 4)) = nI (24 - 8 * (p % 4)).toNat := by
      rw [show (24 : Int32) = zI 24 from rfl, show (8 : Int32) = zI 8 from rfl, zI_mul, zI_sub]
      have : zI (24 - 8 * (p % 4)) = zI (((24 - 8 * (p % 4)).toNat : Nat) : Int) := by rw [show (((24 - 8 * (p % 4)).toNat : Nat) : Int) = 24 - 8 * (p % 4) by omega]
      rw [this]
      exact Int32.ofInt_eq_ofNat
    rw [mX6_feed_L20, if_neg (show ¬ (20 : Int32) ≤ zI p by rw [z_20, zI_le (by omega) (by omega) (by omega) (by omega)]; omega), hsel, sob, show irm (zI p) 4 = some (zI (p % 4)) from irm_z (b := 4) hp (by omega) (by omega) (by omega), sob, hsh, by_r, ← hval, zI_add, wr_in (by omega) (by omega) (by omega), sob, zI_a1]
    refine X6_feed_L ht k f (p + 1) _ (by omega) (by omega) (by omega) ?_
    have := Ar_ext h1 (show 0 ≤ taped + p by omega)
    rw [show taped + p + 1 = taped + (p + 1) by omega] at this
    exact this
theorem feX_in {B : Int → Int} {fe : Int} (x1 x2 x3 x4 x5 : Int32) (h : ∀ i, 0 ≤ i → i < fe → 0 ≤ B i ∧ B i < 256) : ∀ i, 0 ≤ i → 0 ≤ feX B fe x1 x2 x3 x4 x5 i ∧ feX B fe x1 x2 x3 x4 x5 i < 256 := fun i h0 => by
  unfold feX
  by_cases c : i < fe
  · rw [if_pos c]; exact h i h0 c
  · rw [if_neg c]; exact byT_in _ _
theorem P_feed {tape : TapT} {tp : FnT} {fe : Int} {B : Int → Int} (h : TapB tape fe B) (h6 : Ar tp fe B) (hB : ∀ i, 0 ≤ i → i < fe → 0 ≤ B i ∧ B i < 256) (th x1 x2 x3 x4 x5 : Int32) :
    ∃ (a : Int32) (tape' : TapT) (tp' : FnT) (fe' : Int) (B' : Int → Int), mX5_feed tape x1 x2 x3 x4 x5 = some (a, tape') ∧ mX6_feed th tp (zI fe) x1 x2 x3 x4 x5 = some (a, 0, tp', zI fe') ∧ TapB tape' fe' B' ∧ Ar tp' fe' B' ∧ (∀ i, 0 ≤ i → i < fe' → 0 ≤ B' i ∧ B' i < 256) := by
  obtain ⟨h0, h1, h2⟩ := id h
  unfold mX5_feed mX6_feed
  rw [h1, show (20 : Int32) = zI 20 from rfl, zI_add]
  by_cases c : fe + 20 ≤ 900
  · rw [if_pos (show zI (fe + 20) ≤ 900 by rw [z_900, zI_le (by omega) (by omega) (by omega) (by omega)]; exact c), if_pos (show zI fe ≤ 880 by rw [z_880, zI_le (by omega) (by omega) (by omega) (by omega)]; omega)]
    have hX : TapB tape fe (feX B fe x1 x2 x3 x4 x5) := ⟨h0, h1, h2.eq (fun i g0 g1 => by unfold feX; rw [if_pos g1])⟩
    have val : ∀ k, 0 ≤ k → feX B fe x1 x2 x3 x4 x5 (fe + k) = fdB x1 x2 x3 x4 x5 k := fun k hk => by unfold feX; rw [if_neg (by omega), show fe + k - fe = k by omega]
    obtain ⟨t1, e1, k1⟩ := X4_put_z x1 hX (by omega) (fun c g0 g1 => by rw [val c g0]; unfold fdB; rw [if_pos (by omega), show c % 4 = c by omega])
    obtain ⟨t2, e2, k2⟩ := X4_put_z x2 k1 (by omega) (fun c g0 g1 => by rw [show fe + 4 + c = fe + (4 + c) by omega, val _ (by omega)]; unfold fdB; rw [if_neg (by omega), if_pos (by omega), show (4 + c) % 4 = c by omega])
    obtain ⟨t3, e3, k3⟩ := X4_put_z x3 k2 (by omega) (fun c g0 g1 => by rw [show fe + 4 + 4 + c = fe + (8 + c) by omega, val _ (by omega)]; unfold fdB; rw [if_neg (by omega), if_neg (by omega), if_pos (by omega), show (8 + c) % 4 = c by omega])
    obtain ⟨t4, e4, k4⟩ := X4_put_z x4 k3 (by omega) (fun c g0 g1 => by rw [show fe + 4 + 4 + 4 + c = fe + (12 + c) by omega, val _ (by omega)]; unfold fdB; rw [if_neg (by omega), if_neg (by omega), if_neg (by omega), if_pos (by omega), show (12 + c) % 4 = c by omega])
    obtain ⟨t5, e5, k5⟩ := X4_put_z x5 k4 (by omega) (fun c g0 g1 => by rw [show fe + 4 + 4 + 4 + 4 + c = fe + (16 + c) by omega, val _ (by omega)]; unfold fdB; rw [if_neg (by omega), if_neg (by omega), if_neg (by omega), if_neg (by omega), show (16 + c) % 4 = c by omega])
    rw [show fe + 4 + 4 + 4 + 4 + 4 = fe + 20 by omega] at k5
    obtain ⟨tp', e6, k6⟩ := X6_feed_L (taped := fe) (x1 := x1) (x2 := x2) (x3 := x3) (x4 := x4) (x5 := x5) (B := B) (by omega) 20 FU 0 tp (by rw [FU_e]; omega) (by omega) (by omega) (by rw [Int.add_zero]; exact hX.2.2 |> fun _ => h6.eq (fun i g0 g1 => by unfold feX; rw [if_pos g1]))
    rw [e1, sob, e2, sob, e3, sob, e4, sob, e5, sob, show (0 : Int32) = zI 0 from rfl, e6, sob, k5.2.1]
    exact ⟨_, t5, tp', fe + 20, feX B fe x1 x2 x3 x4 x5, rfl, rfl, k5, k6, fun i g0 _ => feX_in x1 x2 x3 x4 x5 hB i g0⟩
  · rw [if_neg (show ¬ zI (fe + 20) ≤ 900 by rw [z_900, zI_le (by omega) (by omega) (by omega) (by omega)]; exact c), if_neg (show ¬ zI fe ≤ 880 by rw [z_880, zI_le (by omega) (by omega) (by omega) (by omega)]; omega)]
    exact ⟨_, tape, tp, fe, B, rfl, rfl, h, h6, hB⟩
