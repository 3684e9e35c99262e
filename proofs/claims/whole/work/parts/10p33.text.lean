/-! PURE ROWS. text as a whole -/
theorem T_read {rdr : RdrT} {rrow : RowT} {tape : TapT} {tp : FnT} {fe n : Int} {B : Int → Int} (hX : TxB tape.1 tp fe n B) (nv nw : FnT) (pl so nu fp : Int32) :
    ∃ (a p s x : Int32), mX6_token tp (zI n) 0 pl so nu = some (a, p, s, x) ∧
    ((∃ (rdr' : RdrT) (rrow' : RowT) (tape' : TapT) (nv' nw' : FnT) (nm' nb' nt' nl' hb' ht' a' p' s' x' fp' : Int32), mX1_read rdr rrow tape (zI n) = some (1, rdr', rrow', tape') ∧ mX6_text_L70 tp (zI n) FU nv nw 0 8 0 0 0 0 a p s x 0 fp = some (nv', nw', nm', nb', nt', nl', hb', ht', a', p', s', x', 0, fp') ∧ stR rdr' rrow' nv' nw' nm' nb' nt' hb' ht' ∧ rdr'.2.2.1 = nl') ∨
    (∃ (rdr' : RdrT) (rrow' : RowT) (tape' : TapT) (nv' nw' : FnT) (nm' nb' nt' nl' hb' ht' a' p' s' x' f' fp' : Int32), mX1_read rdr rrow tape (zI n) = some (0, rdr', rrow', tape') ∧ mX6_text_L70 tp (zI n) FU nv nw 0 8 0 0 0 0 a p s x 0 fp = some (nv', nw', nm', nb', nt', nl', hb', ht', a', p', s', x', f', fp') ∧ f' ≠ 0 ∧ rdr'.2.2.2.1 = f' ∧ rdr'.2.2.2.2.1 = fp')) := by
  have hn := hX.1
  obtain ⟨t1, a1, p1, s1, x1, e1, e2, h1, h2⟩ := X46_token (tape := (tape.1, tape.2.1, zI n, zI 0, tape.2.2.2.2.1, tape.2.2.2.2.2.1, tape.2.2.2.2.2.2)) hX rfl rfl (by omega) pl so nu
  have hb := h1.2.2.2.2.1
  refine ⟨_, _, _, _, e2, ?_⟩
  unfold mX1_read mX4_begin
  rw [show zI 0 = (0 : Int32) from rfl] at e1
  rw [e1, sob, sob]
  have hS : stR (8, 0, 0, 0, (-1), 0, 0) (rrow.1, rrow.2.1, 0) nv nw 0 8 0 0 0 := ⟨⟨0, fun _ => 0, fun _ => 0, ⟨by omega, rfl, Ar_0 _ _, Ar_0 _ _, fun i _ _ => by omega⟩, ⟨by omega, Ar_0 _ _, Ar_0 _ _, fun i _ _ => by omega⟩, rfl⟩, ⟨8, by omega, rfl, rfl⟩, ⟨0, by omega, rfl, rfl⟩, rfl, rfl, rfl, rfl⟩
  have hf : s1 = 3 ∨ 0 < a1 := by
    rcases h1.fin with ⟨_, z, _⟩ | ⟨_, _, _, z⟩
    · exact Or.inl z
    · exact Or.inr (by omega)
  have := T_lines FU 0 a1 p1 s1 (8, 0, 0, 0, (-1), 0, 0) (rrow.1, rrow.2.1, 0) t1 nv nw 0 8 0 0 0 0 x1 fp (by rw [FU_e]; omega) (Or.inr (by rw [FU_e]; omega)) h1 hS rfl (by omega) hf
  exact this
theorem P_text {row rrow : RowT} {past : PasT} {rdr : RdrT} {tape : TapT} {tp value weight pv pw pm : FnT} {n h b t fe : Int} {V G B : Int → Int} {P : PsT} {li fr lf lp : Int32} (hB : Bst row past value weight pv pw pm n h V G P) (hT : TapB tape fe B) (h6 : Ar tp fe B) (hBy : ∀ i, 0 ≤ i → i < fe → 0 ≤ B i ∧ B i < 256) (hb : 2 ≤ b ∧ b ≤ 20) (ht : 0 ≤ t ∧ t ≤ 3) (hf : rdr.2.2.2.1 = lf) (hp : rdr.2.2.2.2.1 = lp) (th : Int32) (nv nw : FnT) (nm nb nt nl hb' ht' sz att pl so nu fa fp : Int32) (x1 : Int32) :
    ∃ (a : Int32) (b2 t2 : Int) (li2 fr2 : Int32) (tape2 : TapT) (rdr2 : RdrT) (rrow2 row2 : RowT) (past2 : PasT) (fe2 : Int) (va we : FnT) (n2 h2 : Int) (nv2 nw2 : FnT) (nm2 nb2 nt2 nl2 hb2 ht2 sz2 at2 pl2 so2 nu2 fa2 fp2 lf2 lp2 : Int32) (V2 G2 : Int → Int) (P2 : PsT),
      mX5_text (zI b) (zI t) li fr tape rdr rrow row past x1 = some (a, zI b2, zI t2, li2, fr2, tape2, rdr2, rrow2, row2, past2) ∧
      mX6_text th tp (zI fe) value weight (zI n) (zI b) (zI t) li (zI h) fr nv nw nm nb nt nl hb' ht' sz att pl so nu fa fp lf lp x1 = some (a, 0, zI fe2, va, we, zI n2, zI b2, zI t2, li2, zI h2, fr2, nv2, nw2, nm2, nb2, nt2, nl2, hb2, ht2, sz2, at2, pl2, so2, nu2, fa2, fp2, lf2, lp2) ∧
      Bst row2 past2 va we pv pw pm n2 h2 V2 G2 P2 ∧ TapB tape2 fe2 B ∧ (0 ≤ fe2 ∧ fe2 ≤ fe) ∧ (2 ≤ b2 ∧ b2 ≤ 20) ∧ (0 ≤ t2 ∧ t2 ≤ 3) ∧ rdr2.2.2.2.1 = lf2 ∧ rdr2.2.2.2.2.1 = lp2 := by
  obtain ⟨m, hm, rfl⟩ := zI_ex x1
  obtain ⟨hfe, hte, hta⟩ := id hT
  have hsame : Bst row past value weight pv pw pm n h V G P := hB
  unfold mX5_text mX6_text
  rw [hte]
  by_cases c0 : m < 0
  · rw [if_pos (show zI m < 0 by rw [z_0, zI_lt (by omega) (by omega) (by omega) (by omega)]; exact c0), if_pos (show zI m < 0 by rw [z_0, zI_lt (by omega) (by omega) (by omega) (by omega)]; exact c0)]
    exact ⟨_, b, t, _, _, _, _, _, _, _, fe, _, _, n, h, _, _, _, _, _, _, _, _, _, _, _, _, _, _, _, _, _, V, G, P, rfl, rfl, hB, hT, by omega, hb, ht, hf, hp⟩
  · rw [if_neg (show ¬ zI m < 0 by rw [z_0, zI_lt (by omega) (by omega) (by omega) (by omega)]; exact c0), if_neg (show ¬ zI m < 0 by rw [z_0, zI_lt (by omega) (by omega) (by omega) (by omega)]; exact c0)]
    by_cases c1 : m ≤ fe
    · rw [if_pos (show zI m ≤ zI fe by rw [zI_le (by omega) (by omega) (by omega) (by omega)]; exact c1), if_pos (show zI m ≤ zI fe by rw [zI_le (by omega) (by omega) (by omega) (by omega)]; exact c1)]
      have hX : TxB tape.1 tp fe m B := ⟨by omega, hta, h6, hBy⟩
      obtain ⟨a, p, s, x, e0, hh⟩ := T_read (rdr := rdr) (rrow := rrow) hX nv nw pl so nu fp
      rw [e0, sob]
      dsimp only
      rcases hh with ⟨rdr', rrow', tape', nv', nw', nm', nb', nt', nl', hb3, ht3, a', p', s', x', fp', e1, e2, hS, hl⟩ | ⟨rdr', rrow', tape', nv', nw', nm', nb', nt', nl', hb3, ht3, a', p', s', x', f', fp', e1, e2, k1, k2, k3⟩
      · obtain ⟨⟨M, V2, G2, hR2, hV2, hM⟩, ⟨b2, hb2, j1, j2⟩, ⟨t2, ht2, j3, j4⟩, j5, j6, j7, j8⟩ := hS
        have hM0 := hR2.1
        rw [e1, sob, e2, sob]
        dsimp only
        rw [if_pos i1, if_neg i0n, sob, if_pos rfl]
        obtain ⟨row2, g1, g2⟩ := X2_take_z hR2 row
        obtain ⟨va, we, g3, g4⟩ := X6_text_L143_z hV2 M.toNat FU 0 value weight (by rw [FU_e]; omega) (by omega) (by omega) (Ar_0 _ _) (Ar_0 _ _)
        rw [show zI 0 = (0 : Int32) from rfl] at g3
        rw [g1, sob, hM, g3, sob, j1, j2, j3, j4, hl]
        obtain ⟨q1, q2, la, q3, q4, q5⟩ := hB.2.2.1
        exact ⟨_, b2, t2, _, _, _, _, _, _, _, 0, _, _, M, 0, _, _, _, _, _, _, _, _, _, _, _, _, _, _, _, _, _, V2, G2, P, rfl, rfl, ⟨g2, g4, ⟨by omega, rfl, la, q3, q4, fun k k0 k1 => by omega⟩, ⟨by omega, fun k k0 k1 => by omega⟩⟩, ⟨by omega, rfl, Ar_0 _ _⟩, by omega, hb2, ht2, j5, j6⟩
      · rw [e1, sob, e2, sob]
        dsimp only
        rw [if_neg i0n, if_pos k1, sob, if_neg k1]
        exact ⟨_, b, t, _, _, _, _, _, _, _, 0, _, _, n, h, _, _, _, _, _, _, _, _, _, _, _, _, _, _, _, _, _, V, G, P, rfl, rfl, hB, ⟨by omega, rfl, Ar_0 _ _⟩, by omega, hb, ht, k2, k3⟩
    · rw [if_neg (show ¬ zI m ≤ zI fe by rw [zI_le (by omega) (by omega) (by omega) (by omega)]; exact c1), if_neg (show ¬ zI m ≤ zI fe by rw [zI_le (by omega) (by omega) (by omega) (by omega)]; exact c1)]
      exact ⟨_, b, t, _, _, _, _, _, _, _, fe, _, _, n, h, _, _, _, _, _, _, _, _, _, _, _, _, _, _, _, _, _, V, G, P, rfl, rfl, hB, hT, by omega, hb, ht, hf, hp⟩
