/-! PURE ROWS. text: lines, the text -/
def lnC (cls : Option (Int32 × RdrT × RowT × TapT)) (K : RdrT → RowT → TapT → Option (Int32 × RdrT × RowT × TapT)) : Option (Int32 × RdrT × RowT × TapT) :=
  cls.bind fun q5 => if q5.1 = 0 then some (0, q5.2.1, q5.2.2.1, q5.2.2.2) else (mX1_readEnd q5.2.1 q5.2.2.2).bind fun q7 => if ¬ q7.1 = 0 then K q7.2.1 q5.2.2.1 q7.2.2 else some (0, q7.2.1, q5.2.2.1, q7.2.2)
def LNO (b6 : FnT) (fe n : Int) (B : Int → Int) (a0 : Int) (li nl : Int32) (cls : Option (Int32 × RdrT × RowT × TapT)) (ref : Option (FnT × FnT × Int32 × Int32 × Int32 × Int32 × Int32 × Int32 × Int32 × Int32 × Int32 × Int32 × Int32 × Int32)) : Prop :=
  (∃ (rdr' : RdrT) (rrow' : RowT) (tape' : TapT) (nv nw : FnT) (nm nb nt hb ht : Int32) (a p s : Int) (x fp : Int32), (∀ K, lnC cls K = K rdr' rrow' tape') ∧ ref = some (nv, nw, nm, nb, nt, nl + 1, hb, ht, zI a, zI p, zI s, x, 0, fp) ∧ tkR b6 fe n B tape' a p s x ∧ stR rdr' rrow' nv nw nm nb nt hb ht ∧ a0 + 1 ≤ p ∧ rdr'.2.2.1 = li) ∨
  (∃ (rdr' : RdrT) (rrow' : RowT) (tape' : TapT) (nv nw : FnT) (nm nb nt nl hb ht a p s x f fp : Int32), (∀ K, lnC cls K = some (0, rdr', rrow', tape')) ∧ ref = some (nv, nw, nm, nb, nt, nl, hb, ht, a, p, s, x, f, fp) ∧ f ≠ 0 ∧ rdr'.2.2.2.1 = f ∧ rdr'.2.2.2.2.1 = fp)
def tlR (b6 : FnT) (n : Int) (nl : Int32) (z3 : FnT × FnT × Int32 × Int32 × Int32 × Int32 × Int32 × Int32 × Int32 × Int32 × Int32 × Int32 × Int32) : Option (FnT × FnT × Int32 × Int32 × Int32 × Int32 × Int32 × Int32 × Int32 × Int32 × Int32 × Int32 × Int32 × Int32) :=
  (if ¬ z3.2.2.2.2.2.2.2.2.2.2.2.1 = 0 then
    some (z3.2.2.2.2.2.2.2.2.2.2.2.1, z3.2.2.2.2.2.2.2.2.2.2.2.2)
  else
    if z3.2.2.2.2.2.2.2.2.2.1 = 2 then
      some (z3.2.2.2.2.2.2.2.2.2.2.2.1, z3.2.2.2.2.2.2.2.2.2.2.2.2)
    else
      (mX6_wrong z3.2.2.2.2.2.2.2.2.1 z3.2.2.2.2.2.2.2.2.2.2.2.1 z3.2.2.2.2.2.2.2.2.2.2.2.2 1).bind fun q10 =>
      some (q10.1, q10.2)).bind fun (z5 : Int32 × Int32) =>
  (mX6_goOn b6 (zI n) z3.2.2.2.2.2.2.2.1 z3.2.2.2.2.2.2.2.2.1 z3.2.2.2.2.2.2.2.2.2.1 z3.2.2.2.2.2.2.2.2.2.2.1 z5.1).bind fun q7 =>
  some (z3.1, z3.2.1, z3.2.2.1, z3.2.2.2.1, z3.2.2.2.2.1, (nl + 1), z3.2.2.2.2.2.1, z3.2.2.2.2.2.2.1, q7.1, q7.2.1, q7.2.2.1, q7.2.2.2, z5.1, z5.2)
theorem LN_tail {b6 : FnT} {fe n a : Int} {B : Int → Int} {li nl : Int32} {cls : Option (Int32 × RdrT × RowT × TapT)} {ref : Option (FnT × FnT × Int32 × Int32 × Int32 × Int32 × Int32 × Int32 × Int32 × Int32 × Int32 × Int32 × Int32)} (h : OKL b6 fe n B a li cls ref) : LNO b6 fe n B a li nl cls (ref.bind (tlR b6 n nl)) := by
  rcases h with ⟨rdr', rrow', tape', nv, nw, nm, nb, nt, hb, ht, a1, p1, s1, x, fp, c1, c2, c3, c4, c5, c6⟩ | ⟨rdr', rrow', tape', nv, nw, nm, nb, nt, hb, ht, a1, p1, s1, x, f, fp, c1, c2, c3, c4, c5⟩
  · rw [c1, c2, sob]
    unfold tlR
    dsimp only
    rw [if_neg i0n]
    rcases c3.semi with ⟨k, e, r⟩ | ⟨k, e, r⟩
    · obtain ⟨t2, a2, p2, k2, x2, f1, f2, h3, h4⟩ := c3.adv
      rw [if_pos (show zI s1 = 2 by rw [e]; rfl), sob]
      dsimp only
      rw [goOn_0 f2, sob]
      refine Or.inl ⟨rdr', rrow', t2, _, _, _, _, _, _, _, a2, p2, k2, x2, fp, fun K => ?_, rfl, h3, c4, by omega, c6⟩
      unfold lnC mX1_readEnd
      rw [sob]
      dsimp only
      rw [if_neg i1, if_pos k, f1, sob, sob, if_pos (show ¬ (1 : Int32) = 0 from i1)]
    · unfold mX6_wrong
      rw [if_neg r, if_pos rfl, sob, sob]
      dsimp only
      rw [goOn_f i1, sob]
      refine Or.inr ⟨(rdr'.1, rdr'.2.1, rdr'.2.2.1, 1, zI p1, rdr'.2.2.2.2.2), rrow', tape', _, _, _, _, _, _, _, _, _, _, _, _, _, _, fun K => ?_, rfl, i1, rfl, rfl⟩
      · unfold lnC mX1_readEnd mX1_refuse
        rw [sob]
        dsimp only
        rw [if_neg i1, if_neg k, sob, sob, if_neg (show ¬ ¬ (0 : Int32) = 0 from i0n), c3.2.2.2.1]
  · rw [c1, c2, sob]
    unfold tlR
    dsimp only
    rw [if_pos c3, sob]
    dsimp only
    rw [goOn_f c3, sob]
    refine Or.inr ⟨rdr', rrow', tape', _, _, _, _, _, _, _, _, _, _, _, _, _, _, fun K => ?_, rfl, c3, c4, c5⟩
    unfold lnC
    rw [sob, if_pos rfl]
theorem T_line {b6 : FnT} {fe n a p s : Int} {B : Int → Int} {tape : TapT} {rdr : RdrT} {rrow : RowT} {nv nw : FnT} {nm nb nt nl hb ht x : Int32} (hT : tkR b6 fe n B tape a p s x) (hS : stR rdr rrow nv nw nm nb nt hb ht) (fp : Int32) :
    LNO b6 fe n B a rdr.2.2.1 nl (mX1_readLine rdr rrow tape) (mX6_readLine b6 nv nw nm nb nt nl hb ht (zI n) (zI a) (zI p) (zI s) x 0 fp) := by
  obtain ⟨w, w1, w2, w3, w4⟩ := hT.wd
  have k0 := w4 4 (by omega)
  have k1 := w4 5 (by omega)
  have k2 := w4 6 (by omega)
  have k3 := w4 7 (by omega)
  have q0 : rwC 4 = 0 := rfl
  have q1 : rwC 5 = 1 := rfl
  have q2 : rwC 6 = 2 := rfl
  have q3 : rwC 7 = 3 := rfl
  rw [q0] at k0; rw [q1] at k1; rw [q2] at k2; rw [q3] at k3
  have hz : (if ¬ zI s = 0 then some (-1 : Int32) else some x) = some (zI w) := by
    rcases w3 with ⟨y1, y2, y3⟩ | ⟨y1, y2⟩
    · rw [if_neg (not_not_intro y2), y3]
    · rw [if_pos y1, y2]; rfl
  unfold mX1_readLine mX6_readLine
  rw [hz, sob, k0, sob, k1, sob, k2, sob, k3, sob]
  by_cases c0 : w = ((4 : Nat) : Int)
  · rw [bz_t c0, if_neg i1, if_neg (show ¬ ¬ zI w = 4 by rw [c0]; exact not_not_intro rfl)]
    exact LN_tail (T_row hT hS fp)
  · rw [bz_f c0, if_pos rfl, if_pos (show ¬ zI w = 4 by rw [show (4 : Int32) = zI 4 from rfl, zI_eq (by omega) (by omega) (by omega) (by omega)]; omega)]
    by_cases c1 : w = ((5 : Nat) : Int)
    · rw [bz_t c1, if_neg i1, if_neg (show ¬ ¬ zI w = 5 by rw [c1]; exact not_not_intro rfl)]
      exact LN_tail (T_weight hT hS fp)
    · rw [bz_f c1, if_pos rfl, if_pos (show ¬ zI w = 5 by rw [show (5 : Int32) = zI 5 from rfl, zI_eq (by omega) (by omega) (by omega) (by omega)]; omega)]
      by_cases c2 : w = ((6 : Nat) : Int)
      · rw [bz_t c2, if_neg i1, if_neg (show ¬ ¬ zI w = 6 by rw [c2]; exact not_not_intro rfl)]
        exact LN_tail (T_block hT hS fp)
      · rw [bz_f c2, if_pos rfl, if_pos (show ¬ zI w = 6 by rw [show (6 : Int32) = zI 6 from rfl, zI_eq (by omega) (by omega) (by omega) (by omega)]; omega)]
        by_cases c3 : w = ((7 : Nat) : Int)
        · rw [bz_t c3, if_neg i1, if_neg (show ¬ ¬ zI w = 7 by rw [c3]; exact not_not_intro rfl)]
          exact LN_tail (T_ties hT hS fp)
        · rw [bz_f c3, if_pos rfl, if_pos (show ¬ zI w = 7 by rw [show (7 : Int32) = zI 7 from rfl, zI_eq (by omega) (by omega) (by omega) (by omega)]; omega)]
          refine LN_tail (Or.inr ⟨(rdr.1, rdr.2.1, rdr.2.2.1, 1, zI p, rdr.2.2.2.2.2), rrow, tape, nv, nw, nm, nb, nt, hb, ht, zI a, zI p, zI s, x, 1, zI p, ?_, ?_, i1, rfl, rfl⟩)
          · unfold mX1_refuse
            rw [sob, hT.2.2.2.1]
          · unfold mX6_wrong
            rw [if_pos rfl, sob]
theorem T_lines {b6 : FnT} {fe n : Int} {B : Int → Int} : ∀ (f : Nat) (y a p s : Int) (rdr : RdrT) (rrow : RowT) (tape : TapT) (nv nw : FnT) (nm nb nt nl hb ht x fp : Int32), 0 < f → (s = 3 ∨ n - a + 1 < f) → tkR b6 fe n B tape a p s x → stR rdr rrow nv nw nm nb nt hb ht → rdr.2.2.1 = nl → (0 ≤ y ∧ y ≤ n) → (s = 3 ∨ y < a) →
    (∃ (rdr' : RdrT) (rrow' : RowT) (tape' : TapT) (nv' nw' : FnT) (nm' nb' nt' nl' hb' ht' a' p' s' x' fp' : Int32), mX1_read_L51 (zI n) f (zI y) rdr rrow tape = some (1, rdr', rrow', tape') ∧ mX6_text_L70 b6 (zI n) f nv nw nm nb nt nl hb ht (zI a) (zI p) (zI s) x 0 fp = some (nv', nw', nm', nb', nt', nl', hb', ht', a', p', s', x', 0, fp') ∧ stR rdr' rrow' nv' nw' nm' nb' nt' hb' ht' ∧ rdr'.2.2.1 = nl') ∨
    (∃ (rdr' : RdrT) (rrow' : RowT) (tape' : TapT) (nv' nw' : FnT) (nm' nb' nt' nl' hb' ht' a' p' s' x' f' fp' : Int32), mX1_read_L51 (zI n) f (zI y) rdr rrow tape = some (0, rdr', rrow', tape') ∧ mX6_text_L70 b6 (zI n) f nv nw nm nb nt nl hb ht (zI a) (zI p) (zI s) x 0 fp = some (nv', nw', nm', nb', nt', nl', hb', ht', a', p', s', x', f', fp') ∧ f' ≠ 0 ∧ rdr'.2.2.2.1 = f' ∧ rdr'.2.2.2.2.1 = fp')
  | 0, y, a, p, s, rdr, rrow, tape, nv, nw, nm, nb, nt, nl, hb, ht, x, fp, h, _, _, _, _, _, _ => absurd h (Nat.lt_irrefl 0)
  | f + 1, y, a, p, s, rdr, rrow, tape, nv, nw, nm, nb, nt, nl, hb, ht, x, fp, _, hf, hT, hS, hl, hy, hya => by
    have hn := hT.1.1
    have hbd := hT.2.2.2.2.1
    rw [mX1_read_L51, mX6_text_L70, if_neg (show ¬ zI n < zI y by rw [zI_lt (by omega) (by omega) (by omega) (by omega)]; omega), if_neg i0n]
    rcases hT.fin with ⟨k, e, r, r2⟩ | ⟨k, e, r, r2⟩
    · rw [if_pos k, if_pos r]
      exact Or.inl ⟨_, _, _, _, _, _, _, _, _, _, _, _, _, _, _, _, rfl, rfl, hS, hl⟩
    · rw [if_neg k, if_neg r]
      have hC : ∀ (cls : Option (Int32 × RdrT × RowT × TapT)), (cls.bind fun q5 => if q5.1 = 0 then some (0, q5.2.1, q5.2.2.1, q5.2.2.2) else (mX1_readEnd q5.2.1 q5.2.2.2).bind fun q7 => if ¬ q7.1 = 0 then mX1_read_L51 (zI n) f (zI y + 1) (q7.2.1.1, q7.2.1.2.1, (q7.2.1.2.2.1 + 1), q7.2.1.2.2.2.1, q7.2.1.2.2.2.2.1, q7.2.1.2.2.2.2.2.1, q7.2.1.2.2.2.2.2.2) q5.2.2.1 q7.2.2 else some (0, q7.2.1, q5.2.2.1, q7.2.2)) = lnC cls (fun r w t => mX1_read_L51 (zI n) f (zI y + 1) (r.1, r.2.1, (r.2.2.1 + 1), r.2.2.2.1, r.2.2.2.2.1, r.2.2.2.2.2.1, r.2.2.2.2.2.2) w t) := fun _ => rfl
      rw [hC]
      rcases T_line (nl := nl) hT hS fp with ⟨rdr', rrow', tape', nv', nw', nm', nb', nt', hb', ht', a', p', s', x', fp', c1, c2, c3, c4, c5, c6⟩ | ⟨rdr', rrow', tape', nv', nw', nm', nb', nt', nl', hb', ht', a', p', s', x', f', fp', c1, c2, c3, c4, c5⟩
      · rw [c1, c2, sob, zI_a1]
        dsimp only
        have hb3 := c3.2.2.2.2.1
        have hya2 : y < a := by omega
        have hf2 : s' = 3 ∨ n - a' + 1 < f := by
          rcases c3.fin with ⟨_, z, _⟩ | ⟨_, _, _, z⟩
          · exact Or.inl z
          · exact Or.inr (by omega)
        exact T_lines f (y + 1) a' p' s' (rdr'.1, rdr'.2.1, rdr'.2.2.1 + 1, rdr'.2.2.2) rrow' tape' _ _ _ _ _ _ _ _ _ _ (by omega) hf2 c3 c4 (by rw [c6, hl]) (by omega) (Or.inr (by omega))
      · rw [c1, c2, sob]
        dsimp only
        obtain ⟨g, hg⟩ : ∃ g, f = g + 1 := ⟨f - 1, by omega⟩
        rw [hg, mX6_text_L70, if_pos c3]
        exact Or.inr ⟨_, _, _, _, _, _, _, _, _, _, _, _, _, _, _, _, _, rfl, rfl, c3, c4, c5⟩
theorem X6_text_L143_z {nv nw : FnT} {m : Int} {V G : Int → Int} (hV : Rv nv nw m V G) : ∀ (k f : Nat) (p : Int) (va we : FnT), k < f → 0 ≤ p → m = p + k → Ar va p V → Ar we p G → ∃ va' we', mX6_text_L143 (zI m) nv nw f (zI p) va we = some (va', we') ∧ Rv va' we' m V G
  | k, 0, p, va, we, h, _, _, _, _ => absurd h (Nat.not_lt_zero k)
  | 0, f + 1, p, va, we, _, hp, hk, h1, h2 => by
    have hm := hV.1
    rw [mX6_text_L143, if_pos (show zI m ≤ zI p by rw [zI_le (by omega) (by omega) (by omega) (by omega)]; omega)]
    exact ⟨va, we, rfl, hm, h1.sub (by omega), h2.sub (by omega), hV.2.2.2⟩
  | k + 1, f + 1, p, va, we, h, hp, hk, h1, h2 => by
    have hm := hV.1
    rw [mX6_text_L143, if_neg (show ¬ zI m ≤ zI p by rw [zI_le (by omega) (by omega) (by omega) (by omega)]; omega), rd_A hV.2.1 hp (by omega) (by omega) (by omega), sob, wr_in (by omega) (by omega) (by omega), sob, rd_A hV.2.2.1 hp (by omega) (by omega) (by omega), sob, wr_in (by omega) (by omega) (by omega), sob, zI_a1]
    exact X6_text_L143_z hV k f (p + 1) _ _ (by omega) (by omega) (by omega) (Ar_ext h1 hp) (Ar_ext h2 hp)
