/-! PURE ROWS. Whole numbers in an int: zI; arrays that hold a function of whole numbers: Ar -/
def zI (z : Int) : Int32 := Int32.ofInt z
theorem zI_t {z : Int} (h : -2147483648 ≤ z) (h2 : z < 2147483648) : (zI z).toInt = z := Int32.toInt_ofInt_of_le (by omega) (by omega)
theorem zI_of (x : Int32) : zI x.toInt = x := Int32.ofInt_toInt x
theorem zI_add (a b : Int) : zI a + zI b = zI (a + b) := (Int32.ofInt_add a b).symm
theorem zI_sub (a b : Int) : zI a - zI b = zI (a - b) := (Int32.ofInt_sub a b).symm
theorem zI_mul (a b : Int) : zI a * zI b = zI (a * b) := (Int32.ofInt_mul a b).symm
theorem zI_neg (a : Int) : -(zI a) = zI (-a) := (Int32.ofInt_neg a).symm
theorem zI_a1 (a : Int) : zI a + 1 = zI (a + 1) := zI_add a 1
theorem zI_m1 (a : Int) : zI a - 1 = zI (a - 1) := zI_sub a 1
theorem zI_d1 (a : Int) : zI a + (-1) = zI (a - 1) := by rw [show (-1 : Int32) = zI (-1) from rfl, zI_add, Int.sub_eq_add_neg]
theorem zI_a0 (a : Int) : zI a + 0 = zI a := by rw [show (0 : Int32) = zI 0 from rfl, zI_add, Int.add_zero]
theorem z_0 : (0 : Int32) = zI 0 := rfl
theorem z_1 : (1 : Int32) = zI 1 := rfl
theorem z_2 : (2 : Int32) = zI 2 := rfl
theorem z_3 : (3 : Int32) = zI 3 := rfl
theorem z_4 : (4 : Int32) = zI 4 := rfl
theorem z_5 : (5 : Int32) = zI 5 := rfl
theorem z_6 : (6 : Int32) = zI 6 := rfl
theorem z_7 : (7 : Int32) = zI 7 := rfl
theorem z_8 : (8 : Int32) = zI 8 := rfl
theorem z_9 : (9 : Int32) = zI 9 := rfl
theorem z_12 : (12 : Int32) = zI 12 := rfl
theorem z_20 : (20 : Int32) = zI 20 := rfl
theorem z_120 : (120 : Int32) = zI 120 := rfl
theorem z_121 : (121 : Int32) = zI 121 := rfl
theorem z_880 : (880 : Int32) = zI 880 := rfl
theorem z_900 : (900 : Int32) = zI 900 := rfl
theorem z_999 : (999 : Int32) = zI 999 := rfl
theorem z_1000 : (1000 : Int32) = zI 1000 := rfl
theorem z_m1 : (-1 : Int32) = zI (-1) := rfl
theorem z_m2 : (-2 : Int32) = zI (-2) := rfl
theorem z_m8 : (-8 : Int32) = zI (-8) := rfl
theorem zI_lt {a b : Int} (h1 : -2147483648 ≤ a) (h2 : a < 2147483648) (h3 : -2147483648 ≤ b) (h4 : b < 2147483648) : (zI a < zI b) = (a < b) := by
  rw [Int32.lt_iff_toInt_lt, zI_t h1 h2, zI_t h3 h4]
theorem zI_le {a b : Int} (h1 : -2147483648 ≤ a) (h2 : a < 2147483648) (h3 : -2147483648 ≤ b) (h4 : b < 2147483648) : (zI a ≤ zI b) = (a ≤ b) := by
  rw [Int32.le_iff_toInt_le, zI_t h1 h2, zI_t h3 h4]
theorem zI_eq {a b : Int} (h1 : -2147483648 ≤ a) (h2 : a < 2147483648) (h3 : -2147483648 ≤ b) (h4 : b < 2147483648) : (zI a = zI b) = (a = b) := by
  rw [← Int32.toInt_inj, zI_t h1 h2, zI_t h3 h4]
theorem zI_inj {a b : Int} (h : zI a = zI b) (h1 : -2147483648 ≤ a) (h2 : a < 2147483648) (h3 : -2147483648 ≤ b) (h4 : b < 2147483648) : a = b := by
  rw [zI_eq h1 h2 h3 h4] at h; exact h
theorem toI_lo (x : Int32) : -2147483648 ≤ x.toInt := by have := Int32.le_toInt x; omega
theorem toI_hi (x : Int32) : x.toInt < 2147483648 := by have := Int32.toInt_lt x; omega
theorem zI_clamp {z : Int} (h : 0 ≤ z) (h2 : z < 2147483648) : (zI z).toNatClampNeg = z.toNat := by
  show (zI z).toInt.toNat = z.toNat
  rw [zI_t (by omega) h2]
theorem zI_nn {z : Int} (h : 0 ≤ z) (h2 : z < 2147483648) : ¬ zI z < 0 := by
  rw [z_0, zI_lt (by omega) h2 (by omega) (by omega)]; omega
def Ar (f : Nat → Int32) (N : Int) (V : Int → Int) : Prop := ∀ i : Int, 0 ≤ i → i < N → f i.toNat = zI (V i)
def pt (V : Int → Int) (z x : Int) : Int → Int := fun i => if i = z then x else V i
theorem pt_same (V : Int → Int) (z x : Int) : pt V z x z = x := by simp [pt]
theorem pt_ne (V : Int → Int) {z i : Int} (x : Int) (h : i ≠ z) : pt V z x i = V i := by simp [pt, h]
theorem rd_in {f : Nat → Int32} {c : Nat} {z : Int} (h0 : 0 ≤ z) (h1 : z < c) (hc : z < 2147483648) : rd f c (zI z) = some (f z.toNat) := by
  unfold rd
  rw [zI_clamp h0 (by omega), if_neg (fun h => by rcases h with h | h; exact zI_nn h0 (by omega) h; omega)]
theorem rd_A {f : Nat → Int32} {N : Int} {V : Int → Int} {c : Nat} {z : Int} (h : Ar f N V) (h0 : 0 ≤ z) (h1 : z < N) (h2 : N ≤ c) (h3 : N < 100000) : rd f c (zI z) = some (zI (V z)) := by
  rw [rd_in h0 (by omega) (by omega), h z h0 h1]
theorem wr_in {f : Nat → Int32} {c : Nat} {z : Int} {x : Int32} (h0 : 0 ≤ z) (h1 : z < c) (hc : z < 2147483648) : wr f c (zI z) x = some (upd f z.toNat x) := by
  unfold wr
  rw [zI_clamp h0 (by omega), if_neg (fun h => by rcases h with h | h; exact zI_nn h0 (by omega) h; omega)]
theorem rx_in {c : Nat} {z : Int} (h0 : 0 ≤ z) (h1 : z < c) (hc : z < 2147483648) : rx c (zI z) = some z.toNat := by
  unfold rx
  rw [zI_clamp h0 (by omega), if_neg (fun h => by rcases h with h | h; exact zI_nn h0 (by omega) h; omega)]
theorem upd_at {f : Nat → Int32} {z i : Int} {x : Int32} (h0 : 0 ≤ z) (hi : 0 ≤ i) : upd f z.toNat x i.toNat = if i = z then x else f i.toNat := by
  unfold upd
  by_cases h : i = z
  · subst h; simp
  · rw [if_neg h, if_neg (by omega)]
/-- a written place -/
theorem Ar_wr {f : Nat → Int32} {N : Int} {V : Int → Int} (h : Ar f N V) {z x : Int} (h0 : 0 ≤ z) : Ar (upd f z.toNat (zI x)) N (pt V z x) := by
  intro i hi hn
  rw [upd_at h0 hi]
  unfold pt
  by_cases e : i = z
  · rw [if_pos e, if_pos e]
  · rw [if_neg e, if_neg e, h i hi hn]
theorem Ar.sub {f : Nat → Int32} {N M : Int} {V : Int → Int} (h : Ar f N V) (hm : M ≤ N) : Ar f M V := fun i h0 h1 => h i h0 (by omega)
theorem Ar.eq {f : Nat → Int32} {N : Int} {V V' : Int → Int} (h : Ar f N V) (e : ∀ i, 0 ≤ i → i < N → V i = V' i) : Ar f N V' := fun i h0 h1 => by rw [h i h0 h1, e i h0 h1]
theorem Ar.self (f : Nat → Int32) (N : Int) : Ar f N (fun i => (f i.toNat).toInt) := fun i _ _ => (zI_of _).symm
theorem FU_e : FU = 2000 := rfl
theorem sob {α β : Type} (a : α) (f : α → Option β) : (some a).bind f = f a := rfl
theorem idv_z {a b : Int} (ha : 0 ≤ a) (ha2 : a < 2147483648) (hb : 0 < b) (hb2 : b < 2147483648) : idv (zI a) (zI b) = some (zI (a / b)) := by
  unfold idv
  rw [if_neg (by rw [z_0, zI_eq (by omega) (by omega) (by omega) (by omega)]; omega)]
  congr 1
  apply Int32.toInt_inj.mp
  have hd : 0 ≤ a / b := Int.ediv_nonneg ha (by omega)
  have hd2 : a / b ≤ a := Int.ediv_le_self b ha
  rw [Int32.toInt_div_of_ne_right _ _ (by rw [z_m1]; intro h; have := zI_inj h (by omega) (by omega) (by omega) (by omega); omega), zI_t (by omega) (by omega), zI_t (by omega) (by omega), zI_t (by omega) (by omega), Int.tdiv_eq_ediv_of_nonneg ha]
theorem irm_z {a b : Int} (ha : 0 ≤ a) (ha2 : a < 2147483648) (hb : 0 < b) (hb2 : b < 2147483648) : irm (zI a) (zI b) = some (zI (a % b)) := by
  have h := idv_z ha ha2 hb hb2
  unfold idv at h
  unfold irm
  have hn : ¬ zI b = 0 := by rw [z_0, zI_eq (by omega) (by omega) (by omega) (by omega)]; omega
  rw [if_neg hn] at h ⊢
  rw [Option.some.inj h, zI_mul, zI_sub, Int.emod_def, Int.mul_comm]
/-- one more place written, behind all -/
theorem Ar_sn {f : Nat → Int32} {N : Int} {V : Int → Int} (h : Ar f N V) {x : Int} (h0 : 0 ≤ N) : Ar (upd f N.toNat (zI x)) (N + 1) (pt V N x) := by
  intro i hi hn
  rw [upd_at h0 hi]
  unfold pt
  by_cases e : i = N
  · rw [if_pos e, if_pos e]
  · rw [if_neg e, if_neg e, h i hi (by omega)]
