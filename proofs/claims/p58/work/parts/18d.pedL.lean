/-! the law's own row edited: loops -/
theorem mn_z {p q : Int} (hp : 0 ≤ p ∧ p < 1000) (hq : 0 ≤ q ∧ q < 1000) : (if zI q < zI p then zI q else zI p) = zI (if q < p then q else p) := by
  by_cases c : q < p
  · rw [if_pos c, if_pos (show zI q < zI p by rw [zI_lt (by omega) (by omega) (by omega) (by omega)]; exact c)]
  · rw [if_neg c, if_neg (show ¬ zI q < zI p by rw [zI_lt (by omega) (by omega) (by omega) (by omega)]; exact c)]
section
variable {f g : Nat → Int32} {n : Nat} {V G : Int → Int}
theorem ed_fill_L (hn : n ≤ 120) {l r v : Int} (hl : 0 ≤ l) (hr : r < n) : ∀ (k F : Nat) (p : Int) (f7 : Nat → Int32), k < F → l ≤ p → r + 1 = p + k → Ar f7 n (fiV V l p v) → ∃ f', mL_edited_L300 n (zI v) (zI r) F (zI p) f7 = some f' ∧ Ar f' n (fiV V l (r + 1) v)
  | k, 0, p, f7, h, _, _, _ => absurd h (Nat.not_lt_zero k)
  | 0, F + 1, p, f7, _, hp, hk, h1 => by
    rw [mL_edited_L300, if_pos (show zI r < zI p by rw [zI_lt (by omega) (by omega) (by omega) (by omega)]; omega)]
    rw [show p = r + 1 by omega] at h1
    exact ⟨f7, rfl, h1⟩
  | k + 1, F + 1, p, f7, h, hp, hk, h1 => by
    rw [mL_edited_L300, if_neg (show ¬ zI r < zI p by rw [zI_lt (by omega) (by omega) (by omega) (by omega)]; omega), wr_in (by omega) (by omega) (by omega), sob, zI_a1]
    exact ed_fill_L hn hl hr k F (p + 1) _ (by omega) (by omega) (by omega) ((Ar_wr h1 (by omega)).eq (fun i _ _ => by
      unfold pt fiV
      by_cases e : i = p
      · rw [if_pos e, if_pos (by omega)]
      · rw [if_neg e]
        by_cases d : l ≤ i ∧ i < p
        · rw [if_pos d, if_pos (by omega)]
        · rw [if_neg d, if_neg (by omega)]))
def fpV (V : Int → Int) (l r p : Int) : Int → Int := fun i => if l ≤ i ∧ i < p then V (l + r - i) else V i
theorem fpV_st (V : Int → Int) {l r p : Int} (hp : l ≤ p) (i : Int) : pt (fpV V l r p) p (V (l + r - p)) i = fpV V l r (p + 1) i := by
  unfold pt fpV
  by_cases e : i = p
  · rw [if_pos e, if_pos (by omega), e]
  · rw [if_neg e]
    by_cases d : l ≤ i ∧ i < p
    · rw [if_pos d, if_pos (by omega)]
    · rw [if_neg d, if_neg (by omega)]
theorem ed_flip_L (hf : Ar f n V) (hg : Ar g n G) (hn : n ≤ 120) {l r : Int} (hl : 0 ≤ l) (hr : r < n) : ∀ (k F : Nat) (p : Int) (f7 f8 : Nat → Int32), k < F → l ≤ p → r + 1 = p + k → Ar f7 n (fpV V l r p) → Ar f8 n (fpV G l r p) → ∃ z, mL_edited_L362 n f g (zI l) (zI r) F (zI p) f7 f8 = some z ∧ Ar z.1 n (fpV V l r (r + 1)) ∧ Ar z.2 n (fpV G l r (r + 1))
  | k, 0, p, f7, f8, h, _, _, _, _ => absurd h (Nat.not_lt_zero k)
  | 0, F + 1, p, f7, f8, _, hp, hk, h1, h2 => by
    rw [mL_edited_L362, if_pos (show zI r < zI p by rw [zI_lt (by omega) (by omega) (by omega) (by omega)]; omega)]
    rw [show p = r + 1 by omega] at h1 h2
    exact ⟨_, rfl, h1, h2⟩
  | k + 1, F + 1, p, f7, f8, h, hp, hk, h1, h2 => by
    rw [mL_edited_L362, if_neg (show ¬ zI r < zI p by rw [zI_lt (by omega) (by omega) (by omega) (by omega)]; omega), zI_add, zI_sub, rd_A hf (by omega) (by omega) (by omega) (by omega), sob, wr_in (by omega) (by omega) (by omega), sob, rd_A hg (by omega) (by omega) (by omega) (by omega), sob, wr_in (by omega) (by omega) (by omega), sob, zI_a1]
    exact ed_flip_L hf hg hn hl hr k F (p + 1) _ _ (by omega) (by omega) (by omega) ((Ar_wr h1 (by omega)).eq (fun i _ _ => fpV_st V hp i)) ((Ar_wr h2 (by omega)).eq (fun i _ _ => fpV_st G hp i))
def sfV (V : Int → Int) (l r s p : Int) : Int → Int := fun i => if (l ≤ i ∧ i ≤ r) ∧ shS l r s i < p then V (shS l r s i) else V i
theorem sfV_st (V : Int → Int) {l r s p : Int} (hlr : l ≤ r) (hs : 0 ≤ s ∧ s ≤ r - l + 1) (hp : l ≤ p ∧ p ≤ r) (i : Int) : pt (sfV V l r s p) (l + (p - l + s) % (r - l + 1)) (V p) i = sfV V l r s (p + 1) i := by
  have hm0 := Int.emod_nonneg (p - l + s) (show r - l + 1 ≠ 0 by omega)
  have hm1 := Int.emod_lt_of_pos (p - l + s) (show 0 < r - l + 1 by omega)
  unfold pt sfV
  by_cases e : i = l + (p - l + s) % (r - l + 1)
  · have hi : l ≤ i ∧ i ≤ r := by omega
    have h1 := (shS_dst hlr hs hp hi).mp e
    rw [if_pos e, if_pos ⟨hi, by omega⟩, h1]
  · rw [if_neg e]
    by_cases d : (l ≤ i ∧ i ≤ r) ∧ shS l r s i < p
    · rw [if_pos d, if_pos ⟨d.1, by omega⟩]
    · rw [if_neg d, if_neg (fun z => by
        have h1 := mt (shS_dst hlr hs hp z.1).mpr e
        exact d ⟨z.1, by omega⟩)]
theorem ed_shift_L (hf : Ar f n V) (hg : Ar g n G) (hn : n ≤ 120) {l r v s : Int} (hl : 0 ≤ l) (hlr : l ≤ r) (hr : r < n) (hv : 0 ≤ v ∧ v < 1000) (hs : s = v % (r - l + 2)) : ∀ (k F : Nat) (p : Int) (f7 f8 : Nat → Int32), k < F → l ≤ p → r + 1 = p + k → Ar f7 n (sfV V l r s p) → Ar f8 n (sfV G l r s p) → ∃ z, mL_edited_L412 n f g (zI v) (zI l) (zI r) F (zI p) f7 f8 = some z ∧ Ar z.1 n (sfV V l r s (r + 1)) ∧ Ar z.2 n (sfV G l r s (r + 1))
  | k, 0, p, f7, f8, h, _, _, _, _ => absurd h (Nat.not_lt_zero k)
  | 0, F + 1, p, f7, f8, _, hp, hk, h1, h2 => by
    rw [mL_edited_L412, if_pos (show zI r < zI p by rw [zI_lt (by omega) (by omega) (by omega) (by omega)]; omega)]
    rw [show p = r + 1 by omega] at h1 h2
    exact ⟨_, rfl, h1, h2⟩
  | k + 1, F + 1, p, f7, f8, h, hp, hk, h1, h2 => by
    have hs0 := Int.emod_nonneg v (show r - l + 2 ≠ 0 by omega)
    have hs1 := Int.emod_lt_of_pos v (show 0 < r - l + 2 by omega)
    have hm0 := Int.emod_nonneg (p - l + s) (show r - l + 1 ≠ 0 by omega)
    have hm1 := Int.emod_lt_of_pos (p - l + s) (show 0 < r - l + 1 by omega)
    rw [mL_edited_L412, if_neg (show ¬ zI r < zI p by rw [zI_lt (by omega) (by omega) (by omega) (by omega)]; omega), zI_sub r l, z_2, zI_add (r - l) 2, irm_z (a := v) (by omega) (by omega) (by omega) (by omega), sob, ← hs, zI_sub p l, zI_add (p - l) s, z_1, zI_add (r - l) 1, irm_z (by omega) (by omega) (by omega) (by omega), sob, rd_A hf (by omega) (by omega) (by omega) (by omega), sob, zI_add l, wr_in (by omega) (by omega) (by omega), sob, sob, zI_add (p - l) s, irm_z (by omega) (by omega) (by omega) (by omega), sob, rd_A hg (by omega) (by omega) (by omega) (by omega), sob, zI_add l, wr_in (by omega) (by omega) (by omega), sob, zI_add p 1]
    exact ed_shift_L hf hg hn hl hlr hr hv hs k F (p + 1) _ _ (by omega) (by omega) (by omega) ((Ar_wr h1 (by omega)).eq (fun i _ _ => sfV_st V hlr (by omega) (by omega) i)) ((Ar_wr h2 (by omega)).eq (fun i _ _ => sfV_st G hlr (by omega) (by omega) i))
theorem ed_repl_L (hf : Ar f n V) (hn : n ≤ 120) (hV : ∀ i : Int, 0 ≤ i → i < n → 0 ≤ V i ∧ V i < 1000) {p v : Int} (hp : 0 ≤ p ∧ p < n) : ∀ (k F : Nat) (q : Int) (f7 : Nat → Int32), k < F → 0 ≤ q → (n : Int) = q + k → Ar f7 n (rpV V q (V p) v) → ∃ f', mL_edited_L499 n f (zI p) (zI v) (zI n) F (zI q) f7 = some f' ∧ Ar f' n (rpV V n (V p) v)
  | k, 0, q, f7, h, _, _, _ => absurd h (Nat.not_lt_zero k)
  | 0, F + 1, q, f7, _, hq, hk, h1 => by
    rw [mL_edited_L499, if_pos (show zI n ≤ zI q by rw [zI_le (by omega) (by omega) (by omega) (by omega)]; omega)]
    rw [show q = n by omega] at h1
    exact ⟨f7, rfl, h1⟩
  | k + 1, F + 1, q, f7, h, hq, hk, h1 => by
    have a1 := hV q hq (by omega)
    have a2 := hV p hp.1 hp.2
    rw [mL_edited_L499, if_neg (show ¬ zI n ≤ zI q by rw [zI_le (by omega) (by omega) (by omega) (by omega)]; omega), rd_A hf (by omega) (by omega) (by omega) (by omega), sob, rd_A hf (by omega) (by omega) (by omega) (by omega), sob]
    have key : ∀ x : Int, x = (if V q = V p then v else V q) → ∀ i : Int, pt (rpV V q (V p) v) q x i = rpV V (q + 1) (V p) v i := fun x hx i => by
      unfold pt rpV
      by_cases e : i = q
      · rw [if_pos e, hx, e]
        by_cases d : V q = V p
        · rw [if_pos d, if_pos ⟨by omega, d⟩]
        · rw [if_neg d, if_neg (fun z => d z.2)]
      · rw [if_neg e]
        by_cases d : i < q ∧ V i = V p
        · rw [if_pos d, if_pos ⟨by omega, d.2⟩]
        · rw [if_neg d, if_neg (fun z => d ⟨by omega, z.2⟩)]
    by_cases c : V q = V p
    · rw [if_neg (show ¬ ¬ zI (V q) = zI (V p) by rw [c]; exact not_not_intro rfl), wr_in (by omega) (by omega) (by omega), sob, zI_a1]
      exact ed_repl_L hf hn hV hp k F (q + 1) _ (by omega) (by omega) (by omega) ((Ar_wr h1 (by omega)).eq (fun i _ _ => key v (by rw [if_pos c]) i))
    · rw [if_pos (show ¬ zI (V q) = zI (V p) by rw [zI_eq (by omega) (by omega) (by omega) (by omega)]; exact c), sob, wr_in (by omega) (by omega) (by omega), sob, zI_a1]
      exact ed_repl_L hf hn hV hp k F (q + 1) _ (by omega) (by omega) (by omega) ((Ar_wr h1 (by omega)).eq (fun i _ _ => key (V q) (by rw [if_neg c]) i))
theorem ed_ins_L (hf : Ar f n V) (hg : Ar g n G) (hn : n ≤ 119) {p v : Int} (hp : 0 ≤ p ∧ p < n) : ∀ (k F : Nat) (q : Int) (f7 f8 : Nat → Int32), k < F → 0 ≤ q → (n : Int) + 1 = q + k → Ar f7 q (inV V p v) → Ar f8 q (inV G p 1) → ∃ z, mL_edited_L130 n f g (zI p) (zI v) (zI n) F (zI q) f7 f8 = some z ∧ Ar z.1 (n + 1) (inV V p v) ∧ Ar z.2 (n + 1) (inV G p 1)
  | k, 0, q, f7, f8, h, _, _, _, _ => absurd h (Nat.not_lt_zero k)
  | 0, F + 1, q, f7, f8, _, hq, hk, h1, h2 => by
    rw [mL_edited_L130, if_pos (show zI n < zI q by rw [zI_lt (by omega) (by omega) (by omega) (by omega)]; omega)]
    rw [show q = n + 1 by omega] at h1 h2
    exact ⟨_, rfl, h1, h2⟩
  | k + 1, F + 1, q, f7, f8, h, hq, hk, h1, h2 => by
    have hc : (zI (n : Int) + 1).toNatClampNeg = n + 1 := by rw [zI_a1, zI_clamp (by omega) (by omega)]; omega
    have hw : ∀ (w : Nat → Int32) (x : Int32), wr w (n + 1) (zI q) x = some (upd w q.toNat x) := fun w x => wr_in hq (by omega) (by omega)
    rw [mL_edited_L130, if_neg (show ¬ zI n < zI q by rw [zI_lt (by omega) (by omega) (by omega) (by omega)]; omega), hc]
    by_cases c : p ≤ q
    · by_cases d : q = p
      · have e1 : inV V p v q = v := by unfold inV; rw [if_neg (by omega), if_pos d]
        have e2 : inV G p 1 q = 1 := by unfold inV; rw [if_neg (by omega), if_pos d]
        rw [if_pos (show zI p ≤ zI q by rw [zI_le (by omega) (by omega) (by omega) (by omega)]; exact c), if_neg (show ¬ ¬ zI q = zI p by rw [d]; exact not_not_intro rfl), sob, hw, sob, if_pos (show zI p ≤ zI q by rw [zI_le (by omega) (by omega) (by omega) (by omega)]; exact c), if_neg (show ¬ ¬ zI q = zI p by rw [d]; exact not_not_intro rfl), hw, sob, zI_a1]
        have a1 := Ar_ext h1 hq
        have a2 := Ar_ext h2 hq
        rw [e1] at a1
        rw [e2] at a2
        exact ed_ins_L hf hg hn hp k F (q + 1) _ _ (by omega) (by omega) (by omega) a1 a2
      · have e1 : inV V p v q = V (q - 1) := by unfold inV; rw [if_neg (by omega), if_neg d]
        have e2 : inV G p 1 q = G (q - 1) := by unfold inV; rw [if_neg (by omega), if_neg d]
        rw [if_pos (show zI p ≤ zI q by rw [zI_le (by omega) (by omega) (by omega) (by omega)]; exact c), if_pos (show ¬ zI q = zI p by rw [zI_eq (by omega) (by omega) (by omega) (by omega)]; exact d), zI_m1, rd_A hf (by omega) (by omega) (by omega) (by omega), sob, sob, hw, sob, if_pos (show zI p ≤ zI q by rw [zI_le (by omega) (by omega) (by omega) (by omega)]; exact c), if_pos (show ¬ zI q = zI p by rw [zI_eq (by omega) (by omega) (by omega) (by omega)]; exact d), rd_A hg (by omega) (by omega) (by omega) (by omega), sob, hw, sob, zI_a1]
        have a1 := Ar_ext h1 hq
        have a2 := Ar_ext h2 hq
        rw [e1] at a1
        rw [e2] at a2
        exact ed_ins_L hf hg hn hp k F (q + 1) _ _ (by omega) (by omega) (by omega) a1 a2
    · have e1 : inV V p v q = V q := by unfold inV; rw [if_pos (by omega)]
      have e2 : inV G p 1 q = G q := by unfold inV; rw [if_pos (by omega)]
      rw [if_neg (show ¬ zI p ≤ zI q by rw [zI_le (by omega) (by omega) (by omega) (by omega)]; exact c), rd_A hf (by omega) (by omega) (by omega) (by omega), sob, sob, hw, sob, if_neg (show ¬ zI p ≤ zI q by rw [zI_le (by omega) (by omega) (by omega) (by omega)]; exact c), rd_A hg (by omega) (by omega) (by omega) (by omega), sob, hw, sob, zI_a1]
      have a1 := Ar_ext h1 hq
      have a2 := Ar_ext h2 hq
      rw [e1] at a1
      rw [e2] at a2
      exact ed_ins_L hf hg hn hp k F (q + 1) _ _ (by omega) (by omega) (by omega) a1 a2
theorem ed_rem_L (hf : Ar f n V) (hg : Ar g n G) (hn : n ≤ 120) {p : Int} (hp : 0 ≤ p ∧ p < n) : ∀ (k F : Nat) (q : Int) (f7 f8 : Nat → Int32), k < F → 0 ≤ q → (n : Int) - 1 = q + k → Ar f7 q (ouV V p) → Ar f8 q (ouV G p) → ∃ z, mL_edited_L234 n f g (zI p) (zI n) F (zI q) f7 f8 = some z ∧ Ar z.1 (n - 1) (ouV V p) ∧ Ar z.2 (n - 1) (ouV G p)
  | k, 0, q, f7, f8, h, _, _, _, _ => absurd h (Nat.not_lt_zero k)
  | 0, F + 1, q, f7, f8, _, hq, hk, h1, h2 => by
    rw [mL_edited_L234, zI_a1, if_pos (show zI n ≤ zI (q + 1) by rw [zI_le (by omega) (by omega) (by omega) (by omega)]; omega)]
    rw [show q = n - 1 by omega] at h1 h2
    exact ⟨_, rfl, h1, h2⟩
  | k + 1, F + 1, q, f7, f8, h, hq, hk, h1, h2 => by
    have hc : (zI (n : Int) - 1).toNatClampNeg = n - 1 := by rw [zI_m1, zI_clamp (by omega) (by omega)]; omega
    have hw : ∀ (w : Nat → Int32) (x : Int32), wr w (n - 1) (zI q) x = some (upd w q.toNat x) := fun w x => wr_in hq (by omega) (by omega)
    rw [mL_edited_L234, zI_a1, if_neg (show ¬ zI n ≤ zI (q + 1) by rw [zI_le (by omega) (by omega) (by omega) (by omega)]; omega), hc]
    by_cases c : p ≤ q
    · have e1 : ouV V p q = V (q + 1) := by unfold ouV; rw [if_neg (by omega)]
      have e2 : ouV G p q = G (q + 1) := by unfold ouV; rw [if_neg (by omega)]
      rw [if_pos (show zI p ≤ zI q by rw [zI_le (by omega) (by omega) (by omega) (by omega)]; exact c), sob, rd_A hf (by omega) (by omega) (by omega) (by omega), sob, hw, sob, if_pos (show zI p ≤ zI q by rw [zI_le (by omega) (by omega) (by omega) (by omega)]; exact c), rd_A hg (by omega) (by omega) (by omega) (by omega), sob, hw, sob]
      have a1 := Ar_ext h1 hq
      have a2 := Ar_ext h2 hq
      rw [e1] at a1
      rw [e2] at a2
      exact ed_rem_L hf hg hn hp k F (q + 1) _ _ (by omega) (by omega) (by omega) a1 a2
    · have e1 : ouV V p q = V q := by unfold ouV; rw [if_pos (by omega)]
      have e2 : ouV G p q = G q := by unfold ouV; rw [if_pos (by omega)]
      rw [if_neg (show ¬ zI p ≤ zI q by rw [zI_le (by omega) (by omega) (by omega) (by omega)]; exact c), sob, rd_A hf (by omega) (by omega) (by omega) (by omega), sob, hw, sob, if_neg (show ¬ zI p ≤ zI q by rw [zI_le (by omega) (by omega) (by omega) (by omega)]; exact c), rd_A hg (by omega) (by omega) (by omega) (by omega), sob, hw, sob]
      have a1 := Ar_ext h1 hq
      have a2 := Ar_ext h2 hq
      rw [e1] at a1
      rw [e2] at a2
      exact ed_rem_L hf hg hn hp k F (q + 1) _ _ (by omega) (by omega) (by omega) a1 a2
end
/-! sorted: the law's loop and the class' in step -/
theorem Ar_sw {f : Nat → Int32} {n : Int} {U : Int → Int} (h : Ar f n U) {q : Int} (hq : 0 < q) : Ar (upd (upd f q.toNat (zI (U (q - 1)))) (q - 1).toNat (zI (U q))) n (swI U (q - 1) q) := by
  refine (Ar_wr (Ar_wr h (by omega)) (by omega)).eq (fun i _ _ => ?_)
  unfold pt swI
  by_cases e : i = q - 1
  · rw [if_pos e]
  · rw [if_neg e]
theorem ed_sort_I {n : Nat} (hn : n ≤ 120) {l r v : Int} {up : Int32} (hl : 0 ≤ l) (hr : r < n) (hv : 0 ≤ v ∧ v < 1000) (hup : up = if v % 2 = 0 then 1 else 0) : ∀ (k F F2 : Nat) (q : Int) (t : RowT) (f7 f8 : Nat → Int32) (U H : Int → Int), k < F → k < F2 → q = l + k → q ≤ r → Rw t n U H → Ar f7 n U → Ar f8 n H → (∀ i : Int, 0 ≤ i → i < n → U i < 9) →
    ∃ t' z U' H', mX2_order_L15 (zI l) up F (zI q) t = some t' ∧ mL_edited_L554 n (zI v) (zI l) F2 (zI q) f7 f8 = some z ∧ Rw t' n U' H' ∧ Ar z.1 n U' ∧ Ar z.2 n H' ∧ ∀ i : Int, 0 ≤ i → i < n → U' i < 9
  | k, 0, F2, q, t, f7, f8, U, H, h, _, _, _, _, _, _, _ => absurd h (Nat.not_lt_zero k)
  | k, F + 1, 0, q, t, f7, f8, U, H, _, h, _, _, _, _, _, _ => absurd h (Nat.not_lt_zero k)
  | 0, F + 1, F2 + 1, q, t, f7, f8, U, H, _, _, hk, hqr, hR, h1, h2, h9 => by
    rw [mX2_order_L15, if_pos (show zI q ≤ zI l by rw [zI_le (by omega) (by omega) (by omega) (by omega)]; omega), mL_edited_L554, if_pos (show zI q ≤ zI l by rw [zI_le (by omega) (by omega) (by omega) (by omega)]; omega)]
    exact ⟨_, _, U, H, rfl, rfl, hR, h1, h2, h9⟩
  | k + 1, F + 1, F2 + 1, q, t, f7, f8, U, H, h, h', hk, hqr, hR, h1, h2, h9 => by
    have b1 := (hR.2.2.2.2 (q - 1) (by omega) (by omega)).1
    have b2 := (hR.2.2.2.2 q (by omega) (by omega)).1
    obtain ⟨t1, e1, h8⟩ := X2_exchange_z hR (p := q - 1) (q := q) (by omega) (by omega)
    have ih := ed_sort_I hn hl hr hv hup k F F2 (q - 1) t1 _ _ _ _ (by omega) (by omega) (by omega) (by omega) h8 (Ar_sw h1 (by omega)) (Ar_sw h2 (by omega)) (fun i g0 g1 => by
      unfold swI
      split
      · exact h9 q (by omega) (by omega)
      · split
        · exact h9 (q - 1) (by omega) (by omega)
        · exact h9 i g0 g1)
    have a4 : ∀ (w : Nat → Int32) (W : Int → Int), Ar w n W → rd w n (zI (q - 1)) = some (zI (W (q - 1))) ∧ rd w n (zI q) = some (zI (W q)) := fun w W hw => ⟨rd_A hw (by omega) (by omega) (by omega) (by omega), rd_A hw (by omega) (by omega) (by omega) (by omega)⟩
    have hw : ∀ (w : Nat → Int32) (x : Int32), wr w n (zI q) x = some (upd w q.toNat x) := fun w x => wr_in (by omega) (by omega) (by omega)
    have hw1 : ∀ (w : Nat → Int32) (x : Int32), wr w n (zI (q - 1)) x = some (upd w (q - 1).toNat x) := fun w x => wr_in (by omega) (by omega) (by omega)
    rw [mX2_order_L15, if_neg (show ¬ zI q ≤ zI l by rw [zI_le (by omega) (by omega) (by omega) (by omega)]; omega), mL_edited_L554, if_neg (show ¬ zI q ≤ zI l by rw [zI_le (by omega) (by omega) (by omega) (by omega)]; omega), z_2, irm_z (by omega) (by omega) (by omega) (by omega), sob, zI_m1, rd_A hR.2.2.1 (by omega) (by omega) (by omega) (by omega), sob, rd_A hR.2.2.1 (by omega) (by omega) (by omega) (by omega), sob, (a4 f7 U h1).1, (a4 f7 U h1).2, (a4 f8 H h2).1, (a4 f8 H h2).2]
    by_cases c : v % 2 = 0
    · rw [if_pos c] at hup
      subst hup
      rw [if_neg (show ¬ ¬ zI (v % 2) = 0 by rw [c]; exact not_not_intro rfl), sob, sob]
      unfold mX2_isWrong
      rw [if_neg i1]
      by_cases d : U (q - 1) ≤ U q
      · rw [if_pos (show zI (U (q - 1)) ≤ zI (U q) by rw [zI_le (by omega) (by omega) (by omega) (by omega)]; exact d), if_pos (show zI (U (q - 1)) ≤ zI (U q) by rw [zI_le (by omega) (by omega) (by omega) (by omega)]; exact d), sob, if_pos rfl]
        exact ⟨_, _, U, H, rfl, rfl, hR, h1, h2, h9⟩
      · rw [if_neg (show ¬ zI (U (q - 1)) ≤ zI (U q) by rw [zI_le (by omega) (by omega) (by omega) (by omega)]; exact d), if_neg (show ¬ zI (U (q - 1)) ≤ zI (U q) by rw [zI_le (by omega) (by omega) (by omega) (by omega)]; exact d), sob, if_neg i1, e1, sob, sob, sob, hw, sob, hw1, sob, sob, sob, hw, sob, hw1, sob, zI_d1]
        exact ih
    · rw [if_neg c] at hup
      subst hup
      rw [if_pos (show ¬ zI (v % 2) = 0 by rw [z_0, zI_eq (by omega) (by omega) (by omega) (by omega)]; exact c), sob, sob]
      unfold mX2_isWrong
      rw [if_pos rfl]
      by_cases d : U q ≤ U (q - 1)
      · rw [if_pos (show zI (U q) ≤ zI (U (q - 1)) by rw [zI_le (by omega) (by omega) (by omega) (by omega)]; exact d), if_pos (show zI (U q) ≤ zI (U (q - 1)) by rw [zI_le (by omega) (by omega) (by omega) (by omega)]; exact d), sob, if_pos rfl]
        exact ⟨_, _, U, H, rfl, rfl, hR, h1, h2, h9⟩
      · rw [if_neg (show ¬ zI (U q) ≤ zI (U (q - 1)) by rw [zI_le (by omega) (by omega) (by omega) (by omega)]; exact d), if_neg (show ¬ zI (U q) ≤ zI (U (q - 1)) by rw [zI_le (by omega) (by omega) (by omega) (by omega)]; exact d), sob, if_neg i1, e1, sob, sob, sob, hw, sob, hw1, sob, sob, sob, hw, sob, hw1, sob, zI_d1]
        exact ih
theorem ed_sort_O {n : Nat} (hn : n ≤ 120) {l r v : Int} {up : Int32} (hl : 0 ≤ l) (hr : r < n) (hv : 0 ≤ v ∧ v < 1000) (hup : up = if v % 2 = 0 then 1 else 0) : ∀ (k F F2 : Nat) (p : Int) (t : RowT) (f7 f8 : Nat → Int32) (U H : Int → Int), k < F → k < F2 → l < p → r + 1 = p + k → Rw t n U H → Ar f7 n U → Ar f8 n H → (∀ i : Int, 0 ≤ i → i < n → U i < 9) →
    ∃ t' z U' H', mX2_order_L5 (zI l) (zI r) up F (zI p) t = some t' ∧ mL_edited_L543 n (zI v) (zI l) (zI r) F2 (zI p) f7 f8 = some z ∧ Rw t' n U' H' ∧ Ar z.1 n U' ∧ Ar z.2 n H' ∧ ∀ i : Int, 0 ≤ i → i < n → U' i < 9
  | k, 0, F2, p, t, f7, f8, U, H, h, _, _, _, _, _, _, _ => absurd h (Nat.not_lt_zero k)
  | k, F + 1, 0, p, t, f7, f8, U, H, _, h, _, _, _, _, _, _ => absurd h (Nat.not_lt_zero k)
  | 0, F + 1, F2 + 1, p, t, f7, f8, U, H, _, _, hp, hk, hR, h1, h2, h9 => by
    rw [mX2_order_L5, if_pos (show zI r < zI p by rw [zI_lt (by omega) (by omega) (by omega) (by omega)]; omega), mL_edited_L543, if_pos (show zI r < zI p by rw [zI_lt (by omega) (by omega) (by omega) (by omega)]; omega)]
    exact ⟨_, _, U, H, rfl, rfl, hR, h1, h2, h9⟩
  | k + 1, F + 1, F2 + 1, p, t, f7, f8, U, H, h, h', hp, hk, hR, h1, h2, h9 => by
    obtain ⟨t1, z1, U1, H1, e1, e2, q1, q2, q3, q4⟩ := ed_sort_I hn hl hr hv hup (p - l).toNat FU FU p t f7 f8 U H (by rw [FU_e]; omega) (by rw [FU_e]; omega) (by omega) (by omega) hR h1 h2 h9
    rw [mX2_order_L5, if_neg (show ¬ zI r < zI p by rw [zI_lt (by omega) (by omega) (by omega) (by omega)]; omega), mL_edited_L543, if_neg (show ¬ zI r < zI p by rw [zI_lt (by omega) (by omega) (by omega) (by omega)]; omega), e1, sob, e2, sob, zI_a1]
    exact ed_sort_O hn hl hr hv hup k F F2 (p + 1) t1 z1.1 z1.2 U1 H1 (by omega) (by omega) (by omega) (by omega) q1 q2 q3 q4
theorem ed_sort_z {n : Nat} (hn : n ≤ 120) {l r v : Int} {up : Int32} {t : RowT} {f g : Nat → Int32} {V G : Int → Int} (hl : 0 ≤ l) (hlr : l ≤ r) (hr : r < n) (hv : 0 ≤ v ∧ v < 1000) (hup : up = if v % 2 = 0 then 1 else 0) (hR : Rw t n V G) (hf : Ar f n V) (hg : Ar g n G) (h9 : ∀ i : Int, 0 ≤ i → i < n → V i < 9) :
    ∃ t' z U' H', mX2_order t (zI l) (zI r) up = some t' ∧ mL_edited_L543 n (zI v) (zI l) (zI r) FU (zI l) f g = some z ∧ Rw t' n U' H' ∧ Ar z.1 n U' ∧ Ar z.2 n H' ∧ ∀ i : Int, 0 ≤ i → i < n → U' i < 9 := by
  obtain ⟨t1, z1, U1, H1, e1, e2, q⟩ := ed_sort_O hn hl hr hv hup (r - l).toNat FU 1999 (l + 1) t f g V G (by rw [FU_e]; omega) (by omega) (by omega) (by omega) hR hf hg h9
  refine ⟨t1, z1, U1, H1, ?_, ?_, q⟩
  · unfold mX2_order
    rw [zI_a1, e1, sob]
  · have e0 : mL_edited_L554 n (zI v) (zI l) FU (zI l) f g = some (f, g) := by
      rw [show FU = 1999 + 1 from rfl, mL_edited_L554, if_pos (show zI l ≤ zI l by rw [zI_le (by omega) (by omega) (by omega) (by omega)]; omega)]
    rw [show FU = 1999 + 1 from rfl, mL_edited_L543, if_neg (show ¬ zI r < zI l by rw [zI_lt (by omega) (by omega) (by omega) (by omega)]; omega)]
    rw [e0, sob, zI_a1]
    exact e2
