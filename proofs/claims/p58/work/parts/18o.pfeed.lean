/-! a text fed: its letters on the tape -/
theorem chT_z : ∀ z : Nat, z < 128 → chT (nI z) = nI z := by decide +kernel
theorem bt_hi : ∀ z : Nat, z < 128 → ∀ i : Nat, i < 32 → 8 ≤ i → bt (nI z) i = false := by decide +kernel
theorem sh_z : ∀ c : Nat, c < 4 → (24 - (8 * (nI c)) : Int32) = nI (24 - 8 * c) := by decide +kernel
def w4 (a b c d : Nat) : Int32 := (((0 ||| (nI a <<< (nI 24 &&& 31))) ||| (nI b <<< (nI 16 &&& 31))) ||| (nI c <<< (nI 8 &&& 31))) ||| (nI d <<< (nI 0 &&& 31))
theorem bt_hi2 {z i : Nat} (hz : z < 128) (h : 8 ≤ i) : bt (nI z) i = false := by
  by_cases c : i < 32
  · exact bt_hi z hz i c h
  · exact b_big (by omega)
theorem w4_by {a b c d : Nat} (ha : a < 128) (hb : b < 128) (hc : c < 128) (hd : d < 128) : byT (w4 a b c d) 24 = a ∧ byT (w4 a b c d) 16 = b ∧ byT (w4 a b c d) 8 = c ∧ byT (w4 a b c d) 0 = d := by
  have key : ∀ (n z : Nat), n ≤ 24 → z < 128 → (∀ i, i < 8 → bt (w4 a b c d) (n + i) = bt (nI z) i) → byT (w4 a b c d) n = z := fun n z hn hz h => by
    have e : (w4 a b c d >>> (nI n &&& 31)) &&& 255 = nI z := b_ext (fun i hi => by
      rw [b_and, b_255, b_sshr n (by omega) _ hi]
      by_cases y : i < 8
      · rw [if_pos (by omega), decide_eq_true y, Bool.and_true, h i y]
      · rw [decide_eq_false y, Bool.and_false, bt_hi2 hz (by omega)])
    unfold byT
    rw [e, nI_toInt (by omega)]
  have bw : ∀ j, j < 32 → bt (w4 a b c d) j = ((((decide (24 ≤ j) && bt (nI a) (j - 24)) || (decide (16 ≤ j) && bt (nI b) (j - 16))) || (decide (8 ≤ j) && bt (nI c) (j - 8))) || bt (nI d) j) := fun j hj => by
    unfold w4
    rw [b_or, b_or, b_or, b_or, b_0, b_shl 24 (by omega) _ hj, b_shl 16 (by omega) _ hj, b_shl 8 (by omega) _ hj, b_shl 0 (by omega) _ hj, Bool.false_or, Nat.sub_zero, decide_eq_true (Nat.zero_le j), Bool.true_and]
  refine ⟨key 24 a (by omega) ha (fun i hi => ?_), key 16 b (by omega) hb (fun i hi => ?_), key 8 c (by omega) hc (fun i hi => ?_), key 0 d (by omega) hd (fun i hi => ?_)⟩
  · rw [bw _ (by omega), decide_eq_true (show 24 ≤ 24 + i by omega), show 24 + i - 24 = i by omega, bt_hi2 hb (by omega), bt_hi2 hc (by omega), bt_hi2 hd (by omega), Bool.true_and, Bool.and_false, Bool.and_false, Bool.or_false, Bool.or_false, Bool.or_false]
  · rw [bw _ (by omega), decide_eq_false (show ¬ 24 ≤ 16 + i by omega), decide_eq_true (show 16 ≤ 16 + i by omega), show 16 + i - 16 = i by omega, bt_hi2 hc (by omega), bt_hi2 hd (by omega), Bool.false_and, Bool.false_or, Bool.true_and, Bool.and_false, Bool.or_false, Bool.or_false]
  · rw [bw _ (by omega), decide_eq_false (show ¬ 24 ≤ 8 + i by omega), decide_eq_false (show ¬ 16 ≤ 8 + i by omega), decide_eq_true (show 8 ≤ 8 + i by omega), show 8 + i - 8 = i by omega, bt_hi2 hd (by omega), Bool.false_and, Bool.false_and, Bool.false_or, Bool.false_or, Bool.true_and, Bool.or_false]
  · rw [bw _ (by omega), decide_eq_false (show ¬ 24 ≤ 0 + i by omega), decide_eq_false (show ¬ 16 ≤ 0 + i by omega), decide_eq_false (show ¬ 8 ≤ 0 + i by omega), Nat.zero_add, Bool.false_and, Bool.false_and, Bool.false_and, Bool.false_or, Bool.false_or, Bool.false_or]
/-- letters of a text -/
def ltT (U : List Int32) : Prop := ∀ k, U.getD k 0 = nI (U.getD k 0).toNatClampNeg ∧ (U.getD k 0).toNatClampNeg < 128
def leT (U : List Int32) (i : Int) : Int := ((U.getD i.toNat 0).toNatClampNeg : Int)
theorem pk_w {U : List Int32} (h : ltT U) (k j : Nat) (hj : j < 5) : pkF U k 20 j = w4 (U.getD (k + 4 * j) 0).toNatClampNeg (U.getD (k + (4 * j + 1)) 0).toNatClampNeg (U.getD (k + (4 * j + 2)) 0).toNatClampNeg (U.getD (k + (4 * j + 3)) 0).toNatClampNeg := by
  have e : ∀ m, chT (U.getD m 0) = nI (U.getD m 0).toNatClampNeg := fun m => by rw [(h m).1]; rw [chT_z _ (h m).2, ← (h m).1]; exact (h m).1
  unfold w4
  rw [← e, ← e, ← e, ← e]
  rcases (show j = 0 ∨ j = 1 ∨ j = 2 ∨ j = 3 ∨ j = 4 by omega) with rfl | rfl | rfl | rfl | rfl <;> rfl
theorem pk_by {U : List Int32} (h : ltT U) (k j : Nat) (hj : j < 5) {c : Int} (h0 : 0 ≤ c) (h1 : c < 4) : leT U ((k : Int) + 4 * j + c) = byT (pkF U k 20 j) (24 - 8 * c).toNat := by
  rw [pk_w h k j hj]
  obtain ⟨q0, q1, q2, q3⟩ := w4_by (h (k + 4 * j)).2 (h (k + (4 * j + 1))).2 (h (k + (4 * j + 2))).2 (h (k + (4 * j + 3))).2
  unfold leT
  rcases (show c = 0 ∨ c = 1 ∨ c = 2 ∨ c = 3 by omega) with rfl | rfl | rfl | rfl
  · rw [show (24 - 8 * (0 : Int)).toNat = 24 from rfl, q0, show ((k : Int) + 4 * j + 0).toNat = k + 4 * j by omega]
  · rw [show (24 - 8 * (1 : Int)).toNat = 16 from rfl, q1, show ((k : Int) + 4 * j + 1).toNat = k + (4 * j + 1) by omega]
  · rw [show (24 - 8 * (2 : Int)).toNat = 8 from rfl, q2, show ((k : Int) + 4 * j + 2).toNat = k + (4 * j + 2) by omega]
  · rw [show (24 - 8 * (3 : Int)).toNat = 0 from rfl, q3, show ((k : Int) + 4 * j + 3).toNat = k + (4 * j + 3) by omega]
theorem feed_z {U : List Int32} (h : ltT U) {k : Nat} (hk : k + 20 ≤ 900) {tape : TapT} (hT : TapB tape k (leT U)) : ∃ a tape', mX5_feed tape (pkF U k 20 0) (pkF U k 20 1) (pkF U k 20 2) (pkF U k 20 3) (pkF U k 20 4) = some (a, tape') ∧ TapB tape' (k + 20 : Nat) (leT U) := by
  obtain ⟨t1, e1, k1⟩ := X4_put_z (pkF U k 20 0) hT (by omega) (fun c g0 g1 => by rw [← pk_by h k 0 (by omega) g0 g1, show (k : Int) + 4 * (0 : Nat) + c = (k : Int) + c by omega])
  obtain ⟨t2, e2, k2⟩ := X4_put_z (pkF U k 20 1) k1 (by omega) (fun c g0 g1 => by rw [← pk_by h k 1 (by omega) g0 g1, show (k : Int) + 4 * (1 : Nat) + c = (k : Int) + 4 + c by omega])
  obtain ⟨t3, e3, k3⟩ := X4_put_z (pkF U k 20 2) k2 (by omega) (fun c g0 g1 => by rw [← pk_by h k 2 (by omega) g0 g1, show (k : Int) + 4 * (2 : Nat) + c = (k : Int) + 4 + 4 + c by omega])
  obtain ⟨t4, e4, k4⟩ := X4_put_z (pkF U k 20 3) k3 (by omega) (fun c g0 g1 => by rw [← pk_by h k 3 (by omega) g0 g1, show (k : Int) + 4 * (3 : Nat) + c = (k : Int) + 4 + 4 + 4 + c by omega])
  obtain ⟨t5, e5, k5⟩ := X4_put_z (pkF U k 20 4) k4 (by omega) (fun c g0 g1 => by rw [← pk_by h k 4 (by omega) g0 g1, show (k : Int) + 4 * (4 : Nat) + c = (k : Int) + 4 + 4 + 4 + 4 + c by omega])
  unfold mX5_feed
  rw [hT.2.1, show (20 : Int32) = zI 20 from rfl, zI_add, if_pos (show zI ((k : Int) + 20) ≤ 900 by rw [z_900, zI_le (by omega) (by omega) (by omega) (by omega)]; omega), e1, sob, e2, sob, e3, sob, e4, sob, e5, sob]
  refine ⟨_, t5, rfl, ?_⟩
  rw [show ((k + 20 : Nat) : Int) = (k : Int) + 4 + 4 + 4 + 4 + 4 by omega]
  exact k5
theorem putL_z {U : List Int32} (h : ltT U) (hU : U.length ≤ 880) : ∀ (m f k : Nat) (tape : TapT), m < f → U.length = k + 20 * m → TapB tape k (leT U) → ∃ T', mL_putL U f k tape = some T' ∧ TapB T' U.length (leT U)
  | m, 0, k, tape, hm, _, _ => absurd hm (Nat.not_lt_zero m)
  | 0, f + 1, k, tape, _, hk, hT => by
    rw [mL_putL, if_pos (by omega)]
    exact ⟨tape, rfl, by rw [show U.length = k by omega]; exact hT⟩
  | m + 1, f + 1, k, tape, hm, hk, hT => by
    obtain ⟨a, t1, e1, h1⟩ := feed_z h (k := k) (by omega) hT
    rw [mL_putL, if_neg (by omega), e1, sob]
    exact putL_z h hU m f (k + 20) t1 (by omega) (by omega) h1
