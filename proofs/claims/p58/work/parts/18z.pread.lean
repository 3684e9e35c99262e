/-! the whole text is read as it says -/
theorem StT.A0 {U : List Int32} {va : Nat → Nat} : ∀ k, StT U 0 (dkA va k) → StT U 0 (bytS.getD 0 [])
  | 0, h => h
  | k + 1, h => StT.A0 k (show StT U 0 (dkA va k ++ (32 :: dgs (va k))) from h).l
theorem e03 : (0 : Int32) + 1 + 1 + 1 = zI 3 := by decide
theorem s_read {mn : Nat} {va wt : Nat → Nat} {bk ti : Nat} (hmn : 3 ≤ mn ∧ mn ≤ 20) (hva : ∀ k, k < 20 → va k < 7) (hwt : ∀ k, k < 20 → 1 ≤ wt k ∧ wt k ≤ 3) (hbk : 2 ≤ bk ∧ bk ≤ 6) (hti : ti < 4) {U : List Int32} (hU : StT U 0 (dkC wt (dkB (dkA va mn) bk ti) mn)) {fe : Int} {T : TapT} (hT : TapB T fe (leT U)) (hlt : ltT U) (hfe : ((dkC wt (dkB (dkA va mn) bk ti) mn).length : Int) ≤ fe) :
    ∃ c rr T2 L, mX1_read rdr0 row0 T (nI (dkC wt (dkB (dkA va mn) bk ti) mn).length) = some (1, (zI bk, zI ti, zI L, c), rr, T2) ∧ (3 ≤ L ∧ L ≤ 23) ∧ Rw rr mn (fun j => (va j.toNat : Int)) (fun j => (wt j.toNat : Int)) := by
  obtain ⟨n, hn⟩ : ∃ n : Int, n = ((dkC wt (dkB (dkA va mn) bk ti) mn).length : Nat) := ⟨_, rfl⟩
  obtain ⟨m, rfl⟩ : ∃ m, mn = m + 1 := ⟨mn - 1, by omega⟩
  have hB : StT U 0 (dkB (dkA va (m + 1)) bk ti) := StT.C (wt := wt) (m + 1) 0 (by rw [Nat.zero_add]; exact hU)
  have hAA : StT U 0 (dkA va (m + 1)) := by
    have h := hB
    unfold dkB at h
    exact h.l.l.l.l.l
  have hlA := dkA_l hva (m + 1) hmn.2
  obtain ⟨a, ha⟩ : ∃ a : Int, a = ((dkA va (m + 1)).length : Nat) := ⟨_, rfl⟩
  have ha2 : a = 3 + 2 * ((m : Int) + 1) := by omega
  have hrl := StT.A hva (m + 1) hmn.2 hAA
  obtain ⟨m0, m1, m2, m3, m4, m5, m6, m7, m8⟩ := hB.B (by omega) hti ha
  have hlB : ((dkB (dkA va (m + 1)) bk ti).length : Int) = a + 15 + wlT (4 + ti) := by
    rcases dkB_l (t := dkA va (m + 1)) (bk := bk) (ti := ti) (by omega) with h | h
    · omega
    · omega
  have hle := dkC_le (wt := wt) (t := dkB (dkA va (m + 1)) bk ti) (m + 1) 0
  rw [Nat.zero_add] at hle
  have hle : (dkB (dkA va (m + 1)) bk ti).length ≤ (dkC wt (dkB (dkA va (m + 1)) bk ti) (m + 1)).length := hle
  have hw0 := wlT_all (4 + ti) (by omega)
  have hf := hT.1
  have w0 : wmT (leT U) 0 3 0 := hAA.A0.wd (by omega) rfl rfl
  have hA0 : AtT (T.1, T.2.1, zI n, 0, T.2.2.2.2.1, T.2.2.2.2.2.1, T.2.2.2.2.2.2) fe n 0 (leT U) := ⟨by omega, hT.2.2, hT.2.1, rfl, rfl, fun i g0 g1 => by
    have := (hlt i.toNat).2
    unfold leT
    omega⟩
  have l0 := (hrl 0 (by omega)).1
  rw [show 3 + 2 * ((0 : Nat) : Int) = 3 by omega] at l0
  have e1 := adv_wd hA0 0 0 (by omega) (fun i g0 g1 => by omega) w0 (by show (3 : Int) < n; omega) (by show ¬ (97 ≤ leT U 3 ∧ leT U 3 ≤ 122); rw [l0]; omega)
  have e1 : mX4_advance (T.1, T.2.1, zI n, 0, T.2.2.2.2.1, T.2.2.2.2.2.1, T.2.2.2.2.2.2) = some (T.1, T.2.1, zI n, zI 3, zI 0, 1, T.2.2.2.2.2.2) := e1
  have hA1 : AtT (T.1, T.2.1, zI n, zI 3, zI 0, 1, T.2.2.2.2.2.2) fe n 3 (leT U) := ⟨by omega, hT.2.2, hT.2.1, rfl, rfl, hA0.2.2.2.2.2⟩
  obtain ⟨r1, s1, n1, e2, hR1⟩ := s_rowH hva rdr0 (f := fun _ => 0) (g := fun _ => 0) (m := m) hmn.2 hA1 hrl (by omega) (by rw [← ha2]; exact m0)
  rw [← ha2] at e2
  have e2 : mX1_readRow rdr0 row0 (T.1, T.2.1, zI n, zI 3, zI 0, 1, T.2.2.2.2.2.2) = some (1, (8, 0, 0, 0, (-1), 0, 0), r1, (T.1, T.2.1, zI n, zI (a + 1), s1, 3, n1)) := e2
  have hA2 : AtT (T.1, T.2.1, zI n, zI (a + 1), s1, 3, n1) fe n (a + 1) (leT U) := ⟨by omega, hT.2.2, hT.2.1, rfl, rfl, hA0.2.2.2.2.2⟩
  have e3 := adv_wd hA2 0 2 (by omega) (fun i g0 g1 => by omega) (by rw [show wlT 2 = 5 from rfl, show a + 1 + ((0 : Nat) : Int) = a + 1 by omega, show a + 1 + 5 = a + 6 by omega]; exact m1) (by rw [show wlT 2 = 5 from rfl]; omega) (by rw [show wlT 2 = 5 from rfl, show a + 1 + ((0 : Nat) : Int) + 5 = a + 6 by omega, m2]; omega)
  rw [show wlT 2 = 5 from rfl, show a + 1 + ((0 : Nat) : Int) + 5 = a + 6 by omega, show a + 1 + ((0 : Nat) : Int) = a + 1 by omega] at e3
  have e3 : mX4_advance (T.1, T.2.1, zI n, zI (a + 1), s1, 3, n1) = some (T.1, T.2.1, zI n, zI (a + 6), zI (a + 1), 1, n1) := e3
  have hA3 : AtT (T.1, T.2.1, zI n, zI (a + 6), zI (a + 1), 1, n1) fe n (a + 6) (leT U) := ⟨by omega, hT.2.2, hT.2.1, rfl, rfl, hA0.2.2.2.2.2⟩
  obtain ⟨s4, n4, e4⟩ := s_block (rdr := (8, 0, 0 + 1, 0, (-1), 0, 0)) (bk := bk) hA3 rfl (by omega) m2 (by rw [show a + 6 + 1 = a + 7 by omega]; exact m3) (by rw [show a + 6 + 2 = a + 8 by omega]; exact m4) (by omega)
  rw [show a + 6 + 3 = a + 9 by omega] at e4
  have e4 : mX1_readBlock (8, 0, 0 + 1, 0, (-1), 0, 0) (T.1, T.2.1, zI n, zI (a + 6), zI (a + 1), 1, n1) = some (1, (zI bk, 0, 0 + 1, 0, (-1), 1, 0), (T.1, T.2.1, zI n, zI (a + 9), s4, 3, n4)) := e4
  have hA4 : AtT (T.1, T.2.1, zI n, zI (a + 9), s4, 3, n4) fe n (a + 9) (leT U) := ⟨by omega, hT.2.2, hT.2.1, rfl, rfl, hA0.2.2.2.2.2⟩
  have e5 := adv_wd hA4 0 3 (by omega) (fun i g0 g1 => by omega) (by rw [show wlT 3 = 4 from rfl, show a + 9 + ((0 : Nat) : Int) = a + 9 by omega, show a + 9 + 4 = a + 13 by omega]; exact m5) (by rw [show wlT 3 = 4 from rfl]; omega) (by rw [show wlT 3 = 4 from rfl, show a + 9 + ((0 : Nat) : Int) + 4 = a + 13 by omega, m6]; omega)
  rw [show wlT 3 = 4 from rfl, show a + 9 + ((0 : Nat) : Int) + 4 = a + 13 by omega, show a + 9 + ((0 : Nat) : Int) = a + 9 by omega] at e5
  have e5 : mX4_advance (T.1, T.2.1, zI n, zI (a + 9), s4, 3, n4) = some (T.1, T.2.1, zI n, zI (a + 13), zI (a + 9), 1, n4) := e5
  have hA5 : AtT (T.1, T.2.1, zI n, zI (a + 13), zI (a + 9), 1, n4) fe n (a + 13) (leT U) := ⟨by omega, hT.2.2, hT.2.1, rfl, rfl, hA0.2.2.2.2.2⟩
  obtain ⟨s6, n6, e6⟩ := s_ties (rdr := (zI bk, 0, 0 + 1 + 1, 0, (-1), 1, 0)) hti hA5 rfl m6 (by rw [show a + 13 + 1 = a + 14 by omega]; exact m7) (by rw [show a + 13 + 1 = a + 14 by omega]; exact m8) (by omega)
  rw [show a + 13 + 1 + wlT (4 + ti) + 1 = ((dkB (dkA va (m + 1)) bk ti).length : Nat) by omega] at e6
  have e6 : mX1_readTies (zI bk, 0, 0 + 1 + 1, 0, (-1), 1, 0) (T.1, T.2.1, zI n, zI (a + 13), zI (a + 9), 1, n4) = some (1, (zI bk, zI ti, 0 + 1 + 1, 0, (-1), 1, 1), (T.1, T.2.1, zI n, zI ((dkB (dkA va (m + 1)) bk ti).length : Nat), s6, 3, n6)) := e6
  have hA6 : AtT (T.1, T.2.1, zI n, zI ((dkB (dkA va (m + 1)) bk ti).length : Nat), s6, 3, n6) fe n ((dkC wt (dkB (dkA va (m + 1)) bk ti) 0).length : Nat) (leT U) := ⟨by show 0 ≤ ((dkB (dkA va (m + 1)) bk ti).length : Int) ∧ ((dkB (dkA va (m + 1)) bk ti).length : Int) ≤ n ∧ n ≤ fe ∧ fe ≤ 900; omega, hT.2.2, hT.2.1, rfl, rfl, hA0.2.2.2.2.2⟩
  obtain ⟨T7, c7, r7, T8, L, e7, e8, hL, hR⟩ := s_wts (U := U) (V := fun j => (va j.toNat : Int)) hwt hmn.2 hn hU (x2 := n) (by omega) (m + 1) 0 (Nat.zero_add _) 1997 3 3 (zI bk) (zI ti) 0 (-1) 1 1 r1 _ (by omega) (by omega) (by omega) hA6 (hR1.eq (fun j g0 g1 => ⟨rfl, by rw [if_neg (by omega)]⟩))
  have nx : ∀ z : Int, 0 ≤ z → z ≤ 3 → ¬ zI n < zI z := fun z g0 g1 => by rw [zI_lt (by omega) (by omega) (by omega) (by omega)]; omega
  refine ⟨c7, r7, T8, L, ?_, hL, hR⟩
  unfold mX1_read mX4_begin
  rw [n_z, ← hn, show FU = 1997 + 1 + 1 + 1 from rfl, e1, sob, sob]
  have k1 : mX1_read_L51 (zI n) (1997 + 1 + 1 + 1) 0 (8, 0, 0, 0, (-1), 0, 0) (row0.1, row0.2.1, 0) (T.1, T.2.1, zI n, zI 3, zI 0, 1, T.2.2.2.2.2.2) = mX1_read_L51 (zI n) (1997 + 1 + 1) (0 + 1) (8, 0, 0 + 1, 0, (-1), 0, 0) r1 (T.1, T.2.1, zI n, zI (a + 6), zI (a + 1), 1, n1) :=
    l_step (show ¬ zI n < 0 from nx 0 (by omega) (by omega)) rfl (ln_row hA1 rfl rfl (by omega) w0 e2) rfl e3
  rw [k1]
  rw [l_step (show ¬ zI n < 0 + 1 from nx 1 (by omega) (by omega)) rfl (ln_block hA3 rfl rfl (by omega) m1 e4) rfl e5]
  rw [l_step (show ¬ zI n < 0 + 1 + 1 from nx 2 (by omega) (by omega)) rfl (ln_ties hA5 rfl rfl (by omega) m5 e6) rfl e7, e03]
  exact e8
theorem text_ok {mn : Nat} {va wt : Nat → Nat} {bk ti : Nat} (hmn : 3 ≤ mn ∧ mn ≤ 20) (hva : ∀ k, k < 20 → va k < 7) (hwt : ∀ k, k < 20 → 1 ≤ wt k ∧ wt k ≤ 3) (hbk : 2 ≤ bk ∧ bk ≤ 6) (hti : ti < 4) : TextOK mn va wt bk ti := by
  have h1 := dkA_l hva mn hmn.2
  have h2 := dkB_len (t := dkA va mn) (bk := bk) hti
  have h3 := dkC_len (wt := wt) (t := dkB (dkA va mn) bk ti) mn
  have hG : GL (dkC wt (dkB (dkA va mn) bk ti) mn) := GL_C (GL_B (GL_A hva mn hmn.2) (by omega) hti) hwt mn hmn.2
  obtain ⟨S, hS⟩ : ∃ S, S = dkC wt (dkB (dkA va mn) bk ti) mn := ⟨_, rfl⟩
  obtain ⟨r, hr⟩ : ∃ r, r = (20 - S.length % 20) % 20 := ⟨_, rfl⟩
  have hl : (S ++ List.replicate r 32).length = S.length + r := by rw [List.length_append, List.length_replicate]
  have hGU : GL (S ++ List.replicate r 32) := GL.app (by rw [hS]; exact hG) (GL_rep r)
  rw [← hS] at h3
  obtain ⟨T', e, hT⟩ := putL_z hGU.ltT (by omega) ((S.length + r) / 20) 60 0 tape0 (by omega) (by omega) ⟨by omega, rfl, Ar_0 _ _⟩
  have hU : StT (S ++ List.replicate r 32) 0 (dkC wt (dkB (dkA va mn) bk ti) mn) := ⟨[], List.replicate r 32, by rw [hS]; rfl, rfl⟩
  obtain ⟨c, rr, T2, L, eR, hL, hR⟩ := s_read hmn hva hwt hbk hti hU hT hGU.ltT (by rw [← hS]; omega)
  obtain ⟨t', et, hR'⟩ := X2_take_z hR row0
  have en : nI (dkC wt (dkB (dkA va mn) bk ti) mn).length = zI (S.length : Nat) := by rw [n_z, hS]
  refine ⟨S ++ List.replicate r 32, T', r, (zI L, zI bk, zI ti, zI L, (-2), (T2.1, 0, T2.2.2.1, T2.2.2.2.1, T2.2.2.2.2.1, T2.2.2.2.2.2.1, T2.2.2.2.2.2.2), (zI bk, zI ti, zI L, c), rr, t', (pas0.1, 0, pas0.2.2)), by rw [hS], by omega, by omega, e, ?_, ?_, (n_z bk).symm, (n_z ti).symm, rfl, hR', rfl, rfl⟩
  · unfold mX5_text
    rw [if_neg (show ¬ nI (dkC wt (dkB (dkA va mn) bk ti) mn).length < 0 by rw [en, z_0, zI_lt (by omega) (by omega) (by omega) (by omega)]; omega), if_pos (show nI (dkC wt (dkB (dkA va mn) bk ti) mn).length ≤ T'.2.1 by rw [en, hT.2.1, zI_le (by omega) (by omega) (by omega) (by omega)]; omega), eR, sob, if_pos i1, et, sob]
  · show ¬ zI L ≤ 2
    rw [z_2, zI_le (by omega) (by omega) (by omega) (by omega)]; omega
