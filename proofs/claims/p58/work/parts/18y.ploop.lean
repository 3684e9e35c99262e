/-! a line by its word; a line and the token behind it -/
section
variable {fe n a s : Int} {B : Int → Int} {tape : TapT}
theorem ln_row (hA : AtT tape fe n a B) (hs : tape.2.2.2.2.1 = zI s) (ht : tape.2.2.2.2.2.1 = 1) (h0 : 0 ≤ s ∧ s ≤ a) (hm : wmT B s a 0) {rdr : RdrT} {rrow : RowT} {q : Int32 × RdrT × RowT × TapT} (h : mX1_readRow rdr rrow tape = some q) : mX1_readLine rdr rrow tape = some q := by
  unfold mX1_readLine
  rw [show mX4_isWord tape 0 = some 1 from s_isW hA hs ht h0 (by omega) hm (by omega), sob, if_neg i1, h, sob]
theorem ln_weight (hA : AtT tape fe n a B) (hs : tape.2.2.2.2.1 = zI s) (ht : tape.2.2.2.2.2.1 = 1) (h0 : 0 ≤ s ∧ s ≤ a) (hm : wmT B s a 1) {rdr : RdrT} {rrow : RowT} {q : Int32 × RdrT × RowT × TapT} (h : mX1_readWeight rdr rrow tape = some q) : mX1_readLine rdr rrow tape = some q := by
  unfold mX1_readLine
  rw [show mX4_isWord tape 0 = some 0 from s_isW hA hs ht h0 (by omega) hm (by omega), sob, if_pos rfl, show mX4_isWord tape 1 = some 1 from s_isW hA hs ht h0 (by omega) hm (by omega), sob, if_neg i1, h, sob]
theorem ln_block (hA : AtT tape fe n a B) (hs : tape.2.2.2.2.1 = zI s) (ht : tape.2.2.2.2.2.1 = 1) (h0 : 0 ≤ s ∧ s ≤ a) (hm : wmT B s a 2) {rdr rd2 : RdrT} {rrow : RowT} {x : Int32} {t2 : TapT} (h : mX1_readBlock rdr tape = some (x, rd2, t2)) : mX1_readLine rdr rrow tape = some (x, rd2, rrow, t2) := by
  unfold mX1_readLine
  rw [show mX4_isWord tape 0 = some 0 from s_isW hA hs ht h0 (by omega) hm (by omega), sob, if_pos rfl, show mX4_isWord tape 1 = some 0 from s_isW hA hs ht h0 (by omega) hm (by omega), sob, if_pos rfl, show mX4_isWord tape 2 = some 1 from s_isW hA hs ht h0 (by omega) hm (by omega), sob, if_neg i1, h, sob]
theorem ln_ties (hA : AtT tape fe n a B) (hs : tape.2.2.2.2.1 = zI s) (ht : tape.2.2.2.2.2.1 = 1) (h0 : 0 ≤ s ∧ s ≤ a) (hm : wmT B s a 3) {rdr rd2 : RdrT} {rrow : RowT} {x : Int32} {t2 : TapT} (h : mX1_readTies rdr tape = some (x, rd2, t2)) : mX1_readLine rdr rrow tape = some (x, rd2, rrow, t2) := by
  unfold mX1_readLine
  rw [show mX4_isWord tape 0 = some 0 from s_isW hA hs ht h0 (by omega) hm (by omega), sob, if_pos rfl, show mX4_isWord tape 1 = some 0 from s_isW hA hs ht h0 (by omega) hm (by omega), sob, if_pos rfl, show mX4_isWord tape 2 = some 0 from s_isW hA hs ht h0 (by omega) hm (by omega), sob, if_pos rfl, show mX4_isWord tape 3 = some 1 from s_isW hA hs ht h0 (by omega) hm (by omega), sob, if_neg i1, h, sob]
end
theorem l_step {x2 x3 : Int32} {F : Nat} {rdr : RdrT} {r1 r2 r3 r4 r5 r6 r7 : Int32} {rrow rrow2 : RowT} {tape t1 t2 : TapT} (h1 : ¬ x2 < x3) (h2 : tape.2.2.2.2.2.1 = 1) (h : mX1_readLine rdr rrow tape = some (1, (r1, r2, r3, r4, r5, r6, r7), rrow2, t1)) (ht : t1.2.2.2.2.2.1 = 3) (ha : mX4_advance t1 = some t2) : mX1_read_L51 x2 (F + 1) x3 rdr rrow tape = mX1_read_L51 x2 F (x3 + 1) (r1, r2, r3 + 1, r4, r5, r6, r7) rrow2 t2 := by
  rw [mX1_read_L51, if_neg h1, if_neg (show ¬ tape.2.2.2.2.2.1 = 0 by rw [h2]; decide), h, sob, if_neg i1, s_end (fe := 0) (n := 0) (a := 0) (B := fun _ => 0) ht ha, sob, if_pos i1]
theorem l_end {x2 x3 : Int32} {F : Nat} {rdr : RdrT} {rrow : RowT} {tape : TapT} (h1 : ¬ x2 < x3) (h2 : tape.2.2.2.2.2.1 = 0) : mX1_read_L51 x2 (F + 1) x3 rdr rrow tape = some (1, rdr, rrow, tape) := by
  rw [mX1_read_L51, if_neg h1, if_pos h2]
theorem dkC_le {wt : Nat → Nat} {t : List Int32} : ∀ (d k : Nat), (dkC wt t k).length ≤ (dkC wt t (k + d)).length
  | 0, k => Nat.le_refl _
  | d + 1, k => by
    refine Nat.le_trans (dkC_le d k) ?_
    show (dkC wt t (k + d)).length ≤ (dkC wt t ((k + d) + 1)).length
    by_cases c : 1 < wt (k + d)
    · rw [dkC_s c, List.length_append]; omega
    · rw [dkC_n c]; exact Nat.le_refl _
theorem s_wts {U t : List Int32} {wt : Nat → Nat} (hwt : ∀ k, k < 20 → 1 ≤ wt k ∧ wt k ≤ 3) {mn : Nat} (hmn : mn ≤ 20) {fe n : Int} (hn : n = (dkC wt t mn).length) (hU : StT U 0 (dkC wt t mn)) {x2 : Int} (hx : 24 ≤ x2 ∧ x2 ≤ 900) {V : Int → Int} : ∀ (d k : Nat), k + d = mn → ∀ (F : Nat) (x3 L : Int) (c1 c2 c4 c5 c6 c7 : Int32) (rrow : RowT) (T0 : TapT), d < F → 0 ≤ x3 ∧ x3 + d ≤ 23 → 3 ≤ L ∧ L + d ≤ 23 → AtT T0 fe n ((dkC wt t k).length : Nat) (leT U) → Rw rrow mn V (fun j => if j < k then (wt j.toNat : Int) else 1) →
    ∃ T rdr' rrow' T' L', mX4_advance T0 = some T ∧ mX1_read_L51 (zI x2) F (zI x3) (c1, c2, zI L, c4, c5, c6, c7) rrow T = some (1, (c1, c2, zI L', rdr'), rrow', T') ∧ (3 ≤ L' ∧ L' ≤ 23) ∧ Rw rrow' mn V (fun j => (wt j.toNat : Int))
  | d, k, _, 0, x3, L, c1, c2, c4, c5, c6, c7, rrow, T0, hF, _, _, _, _ => absurd hF (Nat.not_lt_zero d)
  | 0, k, hk, F + 1, x3, L, c1, c2, c4, c5, c6, c7, rrow, T0, hF, h3, hL, hA, hR => by
    have hk : k = mn := hk
    subst hk
    have hA0 := hA.1
    refine ⟨_, (c4, c5, c6, c7), rrow, _, L, adv_end hA 0 (by omega) (fun i g0 g1 => by omega), l_end (show ¬ zI x2 < zI x3 by rw [zI_lt (by omega) (by omega) (by omega) (by omega)]; omega) rfl, by omega, hR.eq (fun j g0 g1 => ⟨rfl, by rw [if_pos (show j < (k : Int) from g1)]⟩)⟩
  | d + 1, k, hk, F + 1, x3, L, c1, c2, c4, c5, c6, c7, rrow, T0, hF, h3, hL, hA, hR => by
    have hw := hwt k (by omega)
    by_cases c : 1 < wt k
    · have hA0 := hA.1
      have hle := dkC_le (wt := wt) (t := t) d (k + 1)
      rw [show k + 1 + d = mn by omega] at hle
      have hUk : StT U 0 (dkC wt t (k + 1)) := StT.C d (k + 1) (by rw [show k + 1 + d = mn by omega]; exact hU)
      have hl1 : (dkC wt t (k + 1)).length = (dkC wt t k).length + (10 + dgn k) := by rw [dkC_s c, List.length_append, dkW_l (by omega)]
      rw [dkC_s c] at hUk
      have hdg := dgn_in k
      obtain ⟨p, hp⟩ : ∃ p : Int, p = ((dkC wt t k).length : Nat) := ⟨_, rfl⟩
      rw [← hp] at hA hA0
      obtain ⟨w1, w2, ⟨w3, w4⟩, w5, w6, w7⟩ := hUk.r.W (by omega) (by omega) (a := p) (by omega)
      have e1 := adv_wd hA 0 1 (by omega) (fun i g0 g1 => by omega) (by rw [show p + ((0 : Nat) : Int) = p by omega, show wlT 1 = 6 from rfl]; exact w1) (by rw [show wlT 1 = 6 from rfl]; omega) (by rw [show p + ((0 : Nat) : Int) + wlT 1 = p + 6 by rw [show wlT 1 = 6 from rfl]; omega, w2]; omega)
      rw [show p + ((0 : Nat) : Int) + wlT 1 = p + 6 by rw [show wlT 1 = 6 from rfl]; omega, show p + ((0 : Nat) : Int) = p by omega] at e1
      have hA1 : AtT (T0.1, T0.2.1, T0.2.2.1, zI (p + 6), zI p, 1, T0.2.2.2.2.2.2) fe n (p + 6) (leT U) := ⟨by omega, hA.2.1, hA.2.2.1, hA.2.2.2.1, rfl, hA.2.2.2.2.2⟩
      obtain ⟨rr2, sv, nv, e2, hR2⟩ := s_weight (rdr := (c1, c2, zI L, c4, c5, c6, c7)) (p := k) (w := wt k) (k := dgn k) (by omega) hA1 hR (by omega) (by omega) w2 w3 w4 w5 w6 w7 (by omega)
      have hA2 : AtT (T0.1, T0.2.1, T0.2.2.1, zI (p + 6 + 4 + dgn k), sv, 3, nv) fe n ((dkC wt t (k + 1)).length : Nat) (leT U) := ⟨by omega, hA.2.1, hA.2.2.1, hA.2.2.2.1, by show zI (p + 6 + 4 + dgn k) = _; rw [show p + 6 + 4 + (dgn k : Int) = ((dkC wt t (k + 1)).length : Nat) by omega], hA.2.2.2.2.2⟩
      have hR3 : Rw rr2 mn V (fun j => if j < (k + 1 : Nat) then (wt j.toNat : Int) else 1) := hR2.eq (fun j g0 g1 => ⟨rfl, by
        unfold pt
        by_cases z : j = k
        · rw [if_pos z, if_pos (by omega), z, Int.toNat_natCast]
        · rw [if_neg z]
          show (if j < (k : Int) then (wt j.toNat : Int) else 1) = _
          by_cases y : j < k
          · rw [if_pos y, if_pos (by omega)]
          · rw [if_neg y, if_neg (by omega)]⟩)
      obtain ⟨T, rd', rr', T', L', i1', i2, i3, i4⟩ := s_wts hwt hmn hn hU hx d (k + 1) (by omega) F (x3 + 1) (L + 1) c1 c2 c4 c5 c6 c7 rr2 _ (by omega) (by omega) (by omega) hA2 hR3
      refine ⟨_, rd', rr', T', L', e1, ?_, i3, i4⟩
      rw [l_step (show ¬ zI x2 < zI x3 by rw [zI_lt (by omega) (by omega) (by omega) (by omega)]; omega) rfl (ln_weight hA1 rfl rfl (by omega) w1 e2) rfl i1', zI_a1, zI_a1]
      exact i2
    · have e : dkC wt t (k + 1) = dkC wt t k := dkC_n c
      refine s_wts hwt hmn hn hU hx d (k + 1) (by omega) (F + 1) x3 L c1 c2 c4 c5 c6 c7 rrow T0 (by omega) (by omega) (by omega) (by rw [e]; exact hA) (hR.eq (fun j g0 g1 => ⟨rfl, ?_⟩))
      by_cases z : j = k
      · rw [if_neg (by omega), if_pos (by omega), z, Int.toNat_natCast]; omega
      · by_cases y : j < k
        · rw [if_pos y, if_pos (by omega)]
        · rw [if_neg y, if_neg (by omega)]
