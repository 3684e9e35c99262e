/-! PURE ROWS. text: the tokens one behind the other, the lines, the text; both ways -/
/-- the token at hand, both ways: a behind it, p where it begins, s its sort to the reference, x the reference's number -/
def tkR (b6 : FnT) (fe n : Int) (B : Int → Int) (tape : TapT) (a p s : Int) (x : Int32) : Prop :=
  TxB tape.1 b6 fe n B ∧ tape.2.2.1 = zI n ∧ tape.2.2.2.1 = zI a ∧ tape.2.2.2.2.1 = zI p ∧ (0 ≤ p ∧ p ≤ a ∧ a ≤ n) ∧
  ((tape.2.2.2.2.2.1 = 0 ∧ s = 3 ∧ a = n) ∨ (tape.2.2.2.2.2.1 = 1 ∧ s = 0 ∧ p < a ∧ ∃ w, x = zI w ∧ wdR B p a w) ∨ (tape.2.2.2.2.2.1 = 2 ∧ s = 1 ∧ p < a ∧ ∃ m w, tape.2.2.2.2.2.2 = zI m ∧ x = zI w ∧ nmR m w) ∨ (tape.2.2.2.2.2.1 = 3 ∧ s = 2 ∧ p < a) ∨ (tape.2.2.2.2.2.1 = 4 ∧ s = 4 ∧ p < a))
theorem X46_token {b6 : FnT} {fe n a : Int} {B : Int → Int} {tape : TapT} (hX : TxB tape.1 b6 fe n B) (he : tape.2.2.1 = zI n) (ha : tape.2.2.2.1 = zI a) (h0 : 0 ≤ a ∧ a ≤ n) (pl so nu : Int32) :
    ∃ (tape' : TapT) (a' p' s' : Int) (x' : Int32), mX4_advance tape = some tape' ∧ mX6_token b6 (zI n) (zI a) pl so nu = some (zI a', zI p', zI s', x') ∧ tkR b6 fe n B tape' a' p' s' x' ∧ a ≤ p' := by
  have hn := hX.1
  obtain ⟨q, g1, g2, g3, g4, g5⟩ := X46_blank (n - a).toNat FU FU a tape hX (by rw [FU_e]; omega) (by rw [FU_e]; omega) h0.1 (by omega) he ha
  unfold mX4_advance mX6_token
  rw [g1, sob, g2, sob, X6_here_z hX (by omega), sob]
  dsimp only
  by_cases c : q < n
  · have hb := hX.2.2.2 q (by omega) (by omega)
    have hh : heT B n q = B q := by unfold heT; rw [if_pos c]
    rw [if_pos (show zI q < tape.2.2.1 by rw [he, zI_lt (by omega) (by omega) (by omega) (by omega)]; omega), rd_A hX.2.1 (by omega) (by omega) (by omega) (by omega), sob, X4_isLetter_z (by omega), sob, hh, if_pos (show ¬ zI (B q) = -1 by rw [show (-1 : Int32) = zI (-1) from rfl, zI_eq (by omega) (by omega) (by omega) (by omega)]; omega), X6_isSmall_z (by omega), sob, sob, X4_isDigit_z (by omega), sob, X6_isDigit_z (by omega), sob, sob]
    by_cases d : 97 ≤ B q ∧ B q ≤ 122
    · rw [bz_t d, if_neg i1, if_neg i1]
      obtain ⟨z, r1, r2, r3, r4, r5⟩ := X46_word (n - q).toNat FU FU q (tape.1, tape.2.1, tape.2.2.1, zI q, zI q, 1, tape.2.2.2.2.2.2) hX (by rw [FU_e]; omega) (by rw [FU_e]; omega) (by omega) (by omega) he rfl
      obtain ⟨w, w1, w2⟩ := X6_wordHere_z (s := q) (a := z) hX.2.2.1 hX.2.2.2 (by omega) (by omega)
      have hz := r5 c d
      unfold mX4_readWord
      dsimp only at r1 ⊢
      rw [r1, sob, sob, r2, sob, w1, sob]
      exact ⟨_, z, q, 0, zI w, rfl, rfl, ⟨hX, he, rfl, rfl, by omega, Or.inr (Or.inl ⟨rfl, rfl, hz, w, rfl, w2⟩)⟩, by omega⟩
    · rw [bz_f d, if_pos rfl, if_pos rfl]
      by_cases e : 48 ≤ B q ∧ B q ≤ 57
      · rw [bz_t e, if_neg i1, if_neg i1]
        obtain ⟨z, x, y, r1, r2, r3, r4, r5, r6⟩ := X46_num (n - q).toNat FU FU q 0 0 (tape.1, tape.2.1, tape.2.2.1, zI q, zI q, 2, 0) hX (by rw [FU_e]; omega) (by rw [FU_e]; omega) (by omega) (by omega) he rfl rfl (Or.inl (by omega))
        have hz := r6 c e
        unfold mX4_readNumber
        dsimp only at r1 ⊢
        rw [r1, sob, sob, show (0 : Int32) = zI 0 from rfl, r2, sob]
        exact ⟨_, z, q, 1, zI y, rfl, rfl, ⟨hX, he, rfl, rfl, by omega, Or.inr (Or.inr (Or.inl ⟨rfl, rfl, hz, x, y, rfl, rfl, r3⟩))⟩, by omega⟩
      · rw [bz_f e, if_pos rfl, if_pos rfl]
        simp only [zI_a1]
        by_cases k : B q = 59
        · rw [k, if_neg (show ¬ ¬ zI 59 = 59 from not_not_intro rfl), if_neg (show ¬ ¬ zI 59 = 59 from not_not_intro rfl), sob, sob]
          exact ⟨_, q + 1, q, 2, nu, rfl, rfl, ⟨hX, he, rfl, rfl, by omega, Or.inr (Or.inr (Or.inr (Or.inl ⟨rfl, rfl, by omega⟩)))⟩, by omega⟩
        · have h59 : ¬ zI (B q) = 59 := by rw [show (59 : Int32) = zI 59 from rfl, zI_eq (by omega) (by omega) (by omega) (by omega)]; exact k
          rw [if_pos h59, if_pos h59, sob, sob]
          exact ⟨_, q + 1, q, 4, nu, rfl, rfl, ⟨hX, he, rfl, rfl, by omega, Or.inr (Or.inr (Or.inr (Or.inr ⟨rfl, rfl, by omega⟩)))⟩, by omega⟩
  · have hh : heT B n q = -1 := by unfold heT; rw [if_neg c]
    rw [if_neg (show ¬ zI q < tape.2.2.1 by rw [he, zI_lt (by omega) (by omega) (by omega) (by omega)]; omega), hh, if_neg (show ¬ ¬ zI (-1) = -1 from not_not_intro rfl)]
    exact ⟨_, q, q, 3, nu, rfl, rfl, ⟨hX, he, rfl, rfl, by omega, Or.inl ⟨rfl, rfl, by omega⟩⟩, by omega⟩
theorem tkR.adv {b6 : FnT} {fe n a p s : Int} {B : Int → Int} {tape : TapT} {x : Int32} (h : tkR b6 fe n B tape a p s x) :
    ∃ (tape' : TapT) (a' p' s' : Int) (x' : Int32), mX4_advance tape = some tape' ∧ mX6_token b6 (zI n) (zI a) (zI p) (zI s) x = some (zI a', zI p', zI s', x') ∧ tkR b6 fe n B tape' a' p' s' x' ∧ a ≤ p' := X46_token h.1 h.2.1 h.2.2.1 (by have := h.2.2.2.2.1; omega) _ _ _
theorem tkR.num {b6 : FnT} {fe n a p s : Int} {B : Int → Int} {tape : TapT} {x : Int32} (h : tkR b6 fe n B tape a p s x) :
    (tape.2.2.2.2.2.1 = 2 ∧ s = 1 ∧ p < a ∧ ∃ m w, tape.2.2.2.2.2.2 = zI m ∧ x = zI w ∧ nmR m w) ∨ (¬ tape.2.2.2.2.2.1 = 2 ∧ ¬ s = 1 ∧ ¬ zI s = 1) := by
  rcases h.2.2.2.2.2 with ⟨k, e, _⟩ | ⟨k, e, _⟩ | ⟨k, e, r⟩ | ⟨k, e, _⟩ | ⟨k, e, _⟩
  · exact Or.inr ⟨by rw [k]; decide, by omega, by rw [e]; decide⟩
  · exact Or.inr ⟨by rw [k]; decide, by omega, by rw [e]; decide⟩
  · exact Or.inl ⟨k, e, r⟩
  · exact Or.inr ⟨by rw [k]; decide, by omega, by rw [e]; decide⟩
  · exact Or.inr ⟨by rw [k]; decide, by omega, by rw [e]; decide⟩
theorem tkR.semi {b6 : FnT} {fe n a p s : Int} {B : Int → Int} {tape : TapT} {x : Int32} (h : tkR b6 fe n B tape a p s x) :
    (tape.2.2.2.2.2.1 = 3 ∧ s = 2 ∧ p < a) ∨ (¬ tape.2.2.2.2.2.1 = 3 ∧ ¬ s = 2 ∧ ¬ zI s = 2) := by
  rcases h.2.2.2.2.2 with ⟨k, e, _⟩ | ⟨k, e, _⟩ | ⟨k, e, r⟩ | ⟨k, e, r⟩ | ⟨k, e, _⟩
  · exact Or.inr ⟨by rw [k]; decide, by omega, by rw [e]; decide⟩
  · exact Or.inr ⟨by rw [k]; decide, by omega, by rw [e]; decide⟩
  · exact Or.inr ⟨by rw [k]; decide, by omega, by rw [e]; decide⟩
  · exact Or.inl ⟨k, e, r⟩
  · exact Or.inr ⟨by rw [k]; decide, by omega, by rw [e]; decide⟩
theorem tkR.fin {b6 : FnT} {fe n a p s : Int} {B : Int → Int} {tape : TapT} {x : Int32} (h : tkR b6 fe n B tape a p s x) :
    (tape.2.2.2.2.2.1 = 0 ∧ s = 3 ∧ zI s = 3 ∧ a = n) ∨ (¬ tape.2.2.2.2.2.1 = 0 ∧ ¬ s = 3 ∧ ¬ zI s = 3 ∧ p < a) := by
  rcases h.2.2.2.2.2 with ⟨k, e, r⟩ | ⟨k, e, r, _⟩ | ⟨k, e, r, _⟩ | ⟨k, e, r⟩ | ⟨k, e, r⟩
  · exact Or.inl ⟨k, e, by rw [e]; rfl, r⟩
  · exact Or.inr ⟨by rw [k]; decide, by omega, by rw [e]; decide, r⟩
  · exact Or.inr ⟨by rw [k]; decide, by omega, by rw [e]; decide, r⟩
  · exact Or.inr ⟨by rw [k]; decide, by omega, by rw [e]; decide, r⟩
  · exact Or.inr ⟨by rw [k]; decide, by omega, by rw [e]; decide, r⟩
theorem rwC_uq : ∀ i : Nat, i < 8 → ∀ j : Nat, j < 8 → rwC i = rwC j → i = j := by decide +kernel
/-- which word is at hand: -1 none of the eight -/
theorem tkR.wd {b6 : FnT} {fe n a p s : Int} {B : Int → Int} {tape : TapT} {x : Int32} (h : tkR b6 fe n B tape a p s x) :
    ∃ w : Int, -1 ≤ w ∧ w < 8 ∧ ((s = 0 ∧ zI s = 0 ∧ x = zI w) ∨ (¬ zI s = 0 ∧ w = -1)) ∧ ∀ j : Nat, j < 8 → mX4_isWord tape (rwC j) = some (bz (w = j)) := by
  obtain ⟨hX, he, ha, hp, hb, hk⟩ := id h
  rcases hk with ⟨k, e, r⟩ | ⟨k, e, r, w, r2, r3⟩ | ⟨k, e, r⟩ | ⟨k, e, r⟩ | ⟨k, e, r⟩
  · exact ⟨-1, by omega, by omega, Or.inr ⟨by rw [e]; decide, rfl⟩, fun j hj => by rw [X4_isWord_no (by rw [k]; decide), bz_f (by omega)]⟩
  · have hw : -1 ≤ w ∧ w < 8 := by
      rcases r3 with ⟨y, _⟩ | ⟨j, y1, y2, _⟩
      · omega
      · omega
    refine ⟨w, hw.1, hw.2, Or.inl ⟨e, by rw [e]; rfl, r2⟩, fun j hj => ?_⟩
    have hc := (rw_1 j hj).1
    have hn := hX.1
    rcases X4_isWord_z (i := rwC j) (by omega) hX.2.1 hX.2.2.2 (by omega) hp ha k (by omega) with ⟨q1, q2⟩ | ⟨q1, q2⟩
    · rw [q1]
      rcases r3 with ⟨y1, y2⟩ | ⟨i, y1, y2, y3⟩
      · exact absurd q2 (y2 j hj)
      · have := rwC_uq i y1 j hj (wmT_uq (rw_1 i y1).1 hc y3 q2)
        rw [bz_t (by omega)]
    · rw [q1, bz_f]
      intro y
      rcases r3 with ⟨y1, y2⟩ | ⟨i, y1, y2, y3⟩
      · omega
      · have : i = j := by omega
        exact q2 (this ▸ y3)
  · exact ⟨-1, by omega, by omega, Or.inr ⟨by rw [e]; decide, rfl⟩, fun j hj => by rw [X4_isWord_no (by rw [k]; decide), bz_f (by omega)]⟩
  · exact ⟨-1, by omega, by omega, Or.inr ⟨by rw [e]; decide, rfl⟩, fun j hj => by rw [X4_isWord_no (by rw [k]; decide), bz_f (by omega)]⟩
  · exact ⟨-1, by omega, by omega, Or.inr ⟨by rw [e]; decide, rfl⟩, fun j hj => by rw [X4_isWord_no (by rw [k]; decide), bz_f (by omega)]⟩
/-! the reference behind a FAULT, and ahead of one -/
theorem goOn_f {b6 : FnT} {sz at' p s x f : Int32} (h : f ≠ 0) : mX6_goOn b6 sz at' p s x f = some (at', p, s, x) := by
  unfold mX6_goOn
  rw [if_pos h]
theorem goOn_0 {b6 : FnT} {sz at' p s x a1 p1 s1 x1 : Int32} (h : mX6_token b6 sz at' p s x = some (a1, p1, s1, x1)) : mX6_goOn b6 sz at' p s x 0 = some (a1, p1, s1, x1) := by
  unfold mX6_goOn
  rw [if_neg i0n, h, sob]
theorem within_f {b6 : FnT} {sz at' p s x f fp lo hi : Int32} (h : f ≠ 0) : mX6_within b6 sz at' p s x f fp lo hi = some (lo, at', p, s, x, f, fp) := by
  unfold mX6_within
  rw [if_pos h, sob]
  dsimp only
  rw [if_pos h, sob]
  dsimp only
  rw [if_pos h, sob, goOn_f h, sob]
theorem within_kind {b6 : FnT} {sz at' p s x fp lo hi : Int32} (h : ¬ s = 1) : mX6_within b6 sz at' p s x 0 fp lo hi = some (lo, at', p, s, x, 1, p) := by
  unfold mX6_within mX6_wrong
  rw [if_neg i0n, if_neg h, if_pos rfl, sob, sob]
  dsimp only
  rw [if_pos i1, sob]
  dsimp only
  rw [if_pos i1, sob, goOn_f i1, sob]
theorem i2 : ¬ (2 : Int32) = 0 := by decide
theorem i3 : ¬ (3 : Int32) = 0 := by decide
theorem within_no {b6 : FnT} {sz at' p x fp lo hi : Int32} (h : x < lo ∨ ¬ x ≤ hi) : mX6_within b6 sz at' p 1 x 0 fp lo hi = some (lo, at', p, 1, x, 2, p) := by
  unfold mX6_within mX6_wrong
  rw [if_neg i0n, if_pos rfl, sob]
  dsimp only
  rw [if_neg i0n, if_pos rfl, sob]
  by_cases c : x < lo
  · rw [if_pos c, sob]
    dsimp only
    rw [if_pos i2, sob, goOn_f i2, sob]
  · have d : ¬ x ≤ hi := by
      rcases h with h | h
      · exact absurd h c
      · exact h
    rw [if_neg c, if_neg d, sob]
    dsimp only
    rw [if_pos i2, sob, goOn_f i2, sob]
theorem within_ok {b6 : FnT} {sz at' p x fp lo hi a1 p1 s1 x1 : Int32} (h1 : ¬ x < lo) (h2 : x ≤ hi) (h : mX6_token b6 sz at' p 1 x = some (a1, p1, s1, x1)) : mX6_within b6 sz at' p 1 x 0 fp lo hi = some (x, a1, p1, s1, x1, 0, fp) := by
  unfold mX6_within
  rw [if_neg i0n, if_pos rfl, sob]
  dsimp only
  rw [if_neg i0n, if_neg h1, if_pos h2, sob]
  dsimp only
  rw [if_neg i0n, sob, goOn_0 h, sob]
theorem nmR.both {m w lo hi : Int} (h : nmR m w) (hh : hi ≤ 9999) : (m = w ∧ lo ≤ w ∧ w ≤ hi) ∨ (¬ (lo ≤ m ∧ m ≤ hi) ∧ ¬ (lo ≤ w ∧ w ≤ hi)) := by
  rcases h with h | h
  · omega
  · omega
theorem nmR.in {m w : Int} (h : nmR m w) : 0 ≤ m ∧ m ≤ 100000 ∧ 0 ≤ w ∧ w ≤ 99999 := by
  rcases h with h | h
  · omega
  · omega
/-- a number within, both ways -/
theorem num_z {b6 : FnT} {fe n a p s lo hi : Int} {B : Int → Int} {tape : TapT} {x l2 h2 : Int32} (h : tkR b6 fe n B tape a p s x) (el : l2 = zI lo) (eh : h2 = zI hi) (h0 : 0 ≤ lo) (h9 : hi ≤ 9999) (h8 : 0 ≤ hi) (l9 : lo ≤ 9999) (rdr : RdrT) (fp : Int32) :
    (∃ (w : Int) (tape' : TapT) (a' p' s' : Int) (x' : Int32), lo ≤ w ∧ w ≤ hi ∧ tape.2.2.2.2.2.1 = 2 ∧ tape.2.2.2.2.2.2 = zI w ∧ mX1_isNumber rdr tape l2 h2 = some (1, rdr) ∧ mX4_advance tape = some tape' ∧ mX6_within b6 (zI n) (zI a) (zI p) (zI s) x 0 fp l2 h2 = some (zI w, zI a', zI p', zI s', x', 0, fp) ∧ tkR b6 fe n B tape' a' p' s' x' ∧ a ≤ p') ∨
    (∃ f : Int32, f ≠ 0 ∧ mX1_isNumber rdr tape l2 h2 = some (0, rdr.1, rdr.2.1, rdr.2.2.1, f, zI p, rdr.2.2.2.2.2) ∧ mX6_within b6 (zI n) (zI a) (zI p) (zI s) x 0 fp l2 h2 = some (l2, zI a, zI p, zI s, x, f, zI p)) := by
  have hp := h.2.2.2.1
  rcases h.num with ⟨k, e, r, m, w, r1, r2, r3⟩ | ⟨k, e, r⟩
  · have hi3 := r3.in
    have ek : zI s = 1 := by rw [e]; rfl
    rcases r3.both (lo := lo) h9 with ⟨c1, c2, c3⟩ | ⟨c1, c2⟩
    · subst c1
      obtain ⟨t1, a1, p1, s1, x1, e1, e2, e3, e4⟩ := h.adv
      refine Or.inl ⟨m, t1, a1, p1, s1, x1, c2, c3, k, r1, ?_, e1, ?_, e3, e4⟩
      · unfold mX1_isNumber
        rw [if_pos k, r1, el, eh, if_neg (show ¬ zI m < zI lo by rw [zI_lt (by omega) (by omega) (by omega) (by omega)]; omega), if_pos (show zI m ≤ zI hi by rw [zI_le (by omega) (by omega) (by omega) (by omega)]; omega)]
      · rw [ek] at e2 ⊢
        rw [within_ok (by rw [r2, el, zI_lt (by omega) (by omega) (by omega) (by omega)]; omega) (by rw [r2, eh, zI_le (by omega) (by omega) (by omega) (by omega)]; omega) e2, r2]
    · refine Or.inr ⟨2, by decide, ?_, ?_⟩
      · unfold mX1_isNumber mX1_refuse
        rw [if_pos k, r1, el, eh, hp]
        simp (disch := omega) only [zI_lt, zI_le]
        by_cases d : m < lo
        · rw [if_pos d, sob]
        · rw [if_neg d, if_neg (show ¬ m ≤ hi by omega), sob]
      · rw [ek, within_no]
        rw [r2, el, eh, zI_lt (by omega) (by omega) (by omega) (by omega), zI_le (by omega) (by omega) (by omega) (by omega)]
        omega
  · refine Or.inr ⟨1, by decide, ?_, within_kind r⟩
    unfold mX1_isNumber mX1_refuse
    rw [if_neg k, hp, sob]
/-! what is told so far, both ways -/
def stR (rdr : RdrT) (rrow : RowT) (nv nw : FnT) (nm nb nt hb ht : Int32) : Prop :=
  (∃ m V G, Rw rrow m V G ∧ Rv nv nw m V G ∧ nm = zI m) ∧ (∃ b, (2 ≤ b ∧ b ≤ 20) ∧ rdr.1 = zI b ∧ nb = zI b) ∧ (∃ t, (0 ≤ t ∧ t ≤ 3) ∧ rdr.2.1 = zI t ∧ nt = zI t) ∧ rdr.2.2.2.1 = 0 ∧ rdr.2.2.2.2.1 = -1 ∧ rdr.2.2.2.2.2.1 = hb ∧ rdr.2.2.2.2.2.2 = ht
/-- a line's part read, both ways: as it should be, or with one and the same fault -/
def OKL (b6 : FnT) (fe n : Int) (B : Int → Int) (a0 : Int) (li : Int32) (cls : Option (Int32 × RdrT × RowT × TapT)) (ref : Option (FnT × FnT × Int32 × Int32 × Int32 × Int32 × Int32 × Int32 × Int32 × Int32 × Int32 × Int32 × Int32)) : Prop :=
  (∃ (rdr' : RdrT) (rrow' : RowT) (tape' : TapT) (nv nw : FnT) (nm nb nt hb ht : Int32) (a p s : Int) (x fp : Int32), cls = some (1, rdr', rrow', tape') ∧ ref = some (nv, nw, nm, nb, nt, hb, ht, zI a, zI p, zI s, x, 0, fp) ∧ tkR b6 fe n B tape' a p s x ∧ stR rdr' rrow' nv nw nm nb nt hb ht ∧ a0 ≤ p ∧ rdr'.2.2.1 = li) ∨
  (∃ (rdr' : RdrT) (rrow' : RowT) (tape' : TapT) (nv nw : FnT) (nm nb nt hb ht a p s x f fp : Int32), cls = some (0, rdr', rrow', tape') ∧ ref = some (nv, nw, nm, nb, nt, hb, ht, a, p, s, x, f, fp) ∧ f ≠ 0 ∧ rdr'.2.2.2.1 = f ∧ rdr'.2.2.2.2.1 = fp)
theorem T_block {b6 : FnT} {fe n a p s : Int} {B : Int → Int} {tape : TapT} {rdr : RdrT} {rrow : RowT} {nv nw : FnT} {nm nb nt hb ht x : Int32} (hT : tkR b6 fe n B tape a p s x) (hS : stR rdr rrow nv nw nm nb nt hb ht) (fp : Int32) :
    OKL b6 fe n B a rdr.2.2.1 ((mX1_readBlock rdr tape).bind fun q11 => some (q11.1, q11.2.1, rrow, q11.2.2)) ((mX6_readBlock b6 nb hb (zI n) (zI a) (zI p) (zI s) x 0 fp).bind fun q17 => some (nv, nw, nm, q17.1, nt, q17.2.1, ht, q17.2.2.1, q17.2.2.2.1, q17.2.2.2.2.1, q17.2.2.2.2.2.1, q17.2.2.2.2.2.2.1, q17.2.2.2.2.2.2.2)) := by
  obtain ⟨s1, s2, s3, s4, s5, s6, s7⟩ := hS
  unfold mX1_readBlock mX6_readBlock
  rw [s6]
  by_cases c : hb = 0
  · obtain ⟨t1, a1, p1, k1, x1, e1, e2, h1, h2⟩ := hT.adv
    rw [if_pos c, if_pos c, sob, e1, sob]
    dsimp only
    rw [goOn_0 e2, sob]
    rcases num_z h1 (l2 := 2) (h2 := 20) (lo := 2) (hi := 20) rfl rfl (by omega) (by omega) (by omega) (by omega) (rdr.1, rdr.2.1, rdr.2.2.1, rdr.2.2.2.1, rdr.2.2.2.2.1, 1, rdr.2.2.2.2.2.2) fp with ⟨w, t2, a2, p2, k2, x2, c1, c2, c3, c4, c5, c6, c7, c8, c9⟩ | ⟨f, hf, c5, c7⟩
    · rw [c5, sob, if_pos (show ¬ (1 : Int32) = 0 from i1), c6, sob, sob]
      dsimp only
      rw [c7, sob, sob]
      have := hT.2.2.2.2.1
      have := h1.2.2.2.2.1
      exact Or.inl ⟨_, _, _, _, _, _, _, _, _, _, a2, p2, k2, x2, fp, rfl, rfl, c8, ⟨s1, ⟨w, ⟨c1, c2⟩, c4, rfl⟩, s3, s4, s5, rfl, s7⟩, by omega, rfl⟩
    · rw [c5, sob, if_neg (show ¬ ¬ (0 : Int32) = 0 from i0n), sob]
      dsimp only
      rw [c7, sob, sob]
      exact Or.inr ⟨_, _, _, _, _, _, _, _, _, _, _, _, _, _, _, _, rfl, rfl, hf, rfl, rfl⟩
  · unfold mX1_refuse mX6_wrong
    rw [if_neg c, if_neg c, if_pos rfl, sob, sob, sob, sob]
    dsimp only
    rw [goOn_f i3, sob, within_f i3, sob, sob, hT.2.2.2.1]
    exact Or.inr ⟨_, _, _, _, _, _, _, _, _, _, _, _, _, _, _, _, rfl, rfl, i3, rfl, rfl⟩
theorem X1_tiesNamed_z {b6 : FnT} {fe n a p s : Int} {B : Int → Int} {tape : TapT} {x : Int32} (hT : tkR b6 fe n B tape a p s x) :
    ∃ w : Int, mX1_tiesNamed tape = some (zI w) ∧ ((0 ≤ w ∧ w ≤ 3 ∧ zI s = 0 ∧ x = zI w) ∨ (w = -1 ∧ (zI s = 0 → ∃ y : Int, x = zI y ∧ (y = -1 ∨ (4 ≤ y ∧ y < 8))))) := by
  obtain ⟨w, w1, w2, w3, w4⟩ := hT.wd
  have k0 := w4 0 (by omega)
  have k1 := w4 1 (by omega)
  have k2 := w4 2 (by omega)
  have k3 := w4 3 (by omega)
  have q0 : rwC 0 = 4 := rfl
  have q1 : rwC 1 = 5 := rfl
  have q2 : rwC 2 = 6 := rfl
  have q3 : rwC 3 = 7 := rfl
  rw [q0] at k0; rw [q1] at k1; rw [q2] at k2; rw [q3] at k3
  unfold mX1_tiesNamed
  rw [k0, sob, k1, sob, k2, sob, k3, sob]
  have out : ¬ (0 ≤ w ∧ w ≤ 3) → (zI s = 0 → ∃ y : Int, x = zI y ∧ (y = -1 ∨ (4 ≤ y ∧ y < 8))) := by
    intro c e
    rcases w3 with ⟨_, _, y⟩ | ⟨y, _⟩
    · exact ⟨w, y, by omega⟩
    · exact absurd e y
  have inn : 0 ≤ w → zI s = 0 ∧ x = zI w := by
    intro c
    rcases w3 with ⟨_, y, z⟩ | ⟨_, y⟩
    · exact ⟨y, z⟩
    · omega
  by_cases c0 : w = ((0 : Nat) : Int)
  · rw [bz_t c0, if_neg i1]
    exact ⟨0, rfl, Or.inl ⟨by omega, by omega, (inn (by omega)).1, by rw [(inn (by omega)).2, c0]; rfl⟩⟩
  · rw [bz_f c0, if_pos rfl]
    by_cases c1 : w = ((1 : Nat) : Int)
    · rw [bz_t c1, if_neg i1]
      exact ⟨1, rfl, Or.inl ⟨by omega, by omega, (inn (by omega)).1, by rw [(inn (by omega)).2, c1]; rfl⟩⟩
    · rw [bz_f c1, if_pos rfl]
      by_cases c2 : w = ((2 : Nat) : Int)
      · rw [bz_t c2, if_neg i1]
        exact ⟨2, rfl, Or.inl ⟨by omega, by omega, (inn (by omega)).1, by rw [(inn (by omega)).2, c2]; rfl⟩⟩
      · rw [bz_f c2, if_pos rfl]
        by_cases c3 : w = ((3 : Nat) : Int)
        · rw [bz_t c3, if_neg i1]
          exact ⟨3, rfl, Or.inl ⟨by omega, by omega, (inn (by omega)).1, by rw [(inn (by omega)).2, c3]; rfl⟩⟩
        · rw [bz_f c3, if_pos rfl]
          exact ⟨-1, rfl, Or.inr ⟨rfl, out (by omega)⟩⟩
theorem T_ties {b6 : FnT} {fe n a p s : Int} {B : Int → Int} {tape : TapT} {rdr : RdrT} {rrow : RowT} {nv nw : FnT} {nm nb nt hb ht x : Int32} (hT : tkR b6 fe n B tape a p s x) (hS : stR rdr rrow nv nw nm nb nt hb ht) (fp : Int32) :
    OKL b6 fe n B a rdr.2.2.1 ((mX1_readTies rdr tape).bind fun q10 => some (q10.1, q10.2.1, rrow, q10.2.2)) ((mX6_readTies b6 nt ht (zI n) (zI a) (zI p) (zI s) x 0 fp).bind fun q16 => some (nv, nw, nm, nb, q16.1, hb, q16.2.1, q16.2.2.1, q16.2.2.2.1, q16.2.2.2.2.1, q16.2.2.2.2.2.1, q16.2.2.2.2.2.2.1, q16.2.2.2.2.2.2.2)) := by
  obtain ⟨s1, s2, s3, s4, s5, s6, s7⟩ := hS
  unfold mX1_readTies mX6_readTies
  rw [s7]
  by_cases c : ht = 0
  · obtain ⟨t1, a1, p1, k1, x1, e1, e2, h1, h2⟩ := hT.adv
    rw [if_pos c, if_pos c, sob, e1, sob]
    dsimp only
    rw [goOn_0 e2, sob]
    dsimp only
    rw [if_neg i0n]
    obtain ⟨w, w1, w2⟩ := X1_tiesNamed_z h1
    rw [w1, sob]
    have h1p := h1.2.2.2.1
    rcases w2 with ⟨d1, d2, d3, d4⟩ | ⟨d1, d2⟩
    · obtain ⟨t2, a2, p2, k2, x2, f1, f2, h3, h4⟩ := h1.adv
      have := hT.2.2.2.2.1
      have := h1.2.2.2.2.1
      rw [if_pos (show ¬ zI w = -1 by rw [show (-1 : Int32) = zI (-1) from rfl, zI_eq (by omega) (by omega) (by omega) (by omega)]; omega), f1, sob, sob, if_neg (not_not_intro d3), d4, if_neg (show ¬ zI w < 0 by rw [show (0 : Int32) = zI 0 from rfl, zI_lt (by omega) (by omega) (by omega) (by omega)]; omega), if_pos (show zI w ≤ 3 by rw [show (3 : Int32) = zI 3 from rfl, zI_le (by omega) (by omega) (by omega) (by omega)]; omega), sob]
      dsimp only
      rw [if_neg i0n, sob]
      rw [d4] at f2
      rw [goOn_0 f2, sob, sob]
      exact Or.inl ⟨_, _, _, _, _, _, _, _, _, _, a2, p2, k2, x2, fp, rfl, rfl, h3, ⟨s1, s2, ⟨w, ⟨d1, d2⟩, rfl, rfl⟩, s4, s5, s6, rfl⟩, by omega, rfl⟩
    · subst d1
      rw [if_neg (show ¬ ¬ zI (-1) = -1 from not_not_intro rfl)]
      have key : (if ¬ zI k1 = 0 then (mX6_wrong (zI p1) 0 fp 1).bind fun q12 => some (q12.1, q12.2) else if x1 < 0 then (mX6_wrong (zI p1) 0 fp 1).bind fun q14 => some (q14.1, q14.2) else if x1 ≤ 3 then some ((0 : Int32), fp) else (mX6_wrong (zI p1) 0 fp 1).bind fun q16 => some (q16.1, q16.2)) = some ((1 : Int32), zI p1) := by
        unfold mX6_wrong
        rw [if_pos rfl, sob]
        by_cases g : zI k1 = 0
        · obtain ⟨y, y1, y2⟩ := d2 g
          rw [if_neg (not_not_intro g), y1]
          by_cases j : y = -1
          · rw [if_pos (show zI y < 0 by rw [j]; decide)]
          · rw [if_neg (show ¬ zI y < 0 by rw [show (0 : Int32) = zI 0 from rfl, zI_lt (by omega) (by omega) (by omega) (by omega)]; omega), if_neg (show ¬ zI y ≤ 3 by rw [show (3 : Int32) = zI 3 from rfl, zI_le (by omega) (by omega) (by omega) (by omega)]; omega)]
        · rw [if_pos g]
      rw [key, sob]
      dsimp only
      rw [if_pos i1, sob, goOn_f i1, sob, sob]
      unfold mX1_refuse
      rw [sob, sob, h1p]
      exact Or.inr ⟨_, _, _, _, _, _, _, _, _, _, _, _, _, _, _, _, rfl, rfl, i1, rfl, rfl⟩
  · unfold mX1_refuse mX6_wrong
    rw [if_neg c, if_neg c, if_pos rfl, sob, sob, sob, sob]
    dsimp only
    rw [goOn_f i3, sob, if_pos i3, sob]
    dsimp only
    rw [if_pos i3, sob, goOn_f i3, sob, sob, hT.2.2.2.1]
    exact Or.inr ⟨_, _, _, _, _, _, _, _, _, _, _, _, _, _, _, _, rfl, rfl, i3, rfl, rfl⟩
theorem T_weight {b6 : FnT} {fe n a p s : Int} {B : Int → Int} {tape : TapT} {rdr : RdrT} {rrow : RowT} {nv nw : FnT} {nm nb nt hb ht x : Int32} (hT : tkR b6 fe n B tape a p s x) (hS : stR rdr rrow nv nw nm nb nt hb ht) (fp : Int32) :
    OKL b6 fe n B a rdr.2.2.1 ((mX1_readWeight rdr rrow tape).bind fun q12 => some (q12.1, q12.2.1, q12.2.2.1, q12.2.2.2)) ((mX6_readWeight b6 nw nm (zI n) (zI a) (zI p) (zI s) x 0 fp).bind fun q18 => some (nv, q18.1, nm, nb, nt, hb, ht, q18.2.1, q18.2.2.1, q18.2.2.2.1, q18.2.2.2.2.1, q18.2.2.2.2.2.1, q18.2.2.2.2.2.2)) := by
  obtain ⟨⟨M, V, G, hR, hV, hM⟩, s2, s3, s4, s5, s6, s7⟩ := hS
  obtain ⟨t1, a1, p1, k1, x1, e1, e2, h1, h2⟩ := hT.adv
  have hM0 := hR.1
  have h1p := h1.2.2.2.1
  unfold mX1_readWeight mX6_readWeight
  rw [e1, sob, goOn_0 e2, sob]
  dsimp only
  rw [if_neg i0n, hM]
  -- a FAULT 1 at the token behind the word
  have bad : ∀ (cls : Option (Int32 × RdrT × RowT × TapT)) (ref : Option (Int32 × Int32)), cls = some (0, (rdr.1, rdr.2.1, rdr.2.2.1, 1, zI p1, rdr.2.2.2.2.2), rrow, t1) → ref = some (1, zI p1) →
      OKL b6 fe n B a rdr.2.2.1 (cls.bind fun q12 => some (q12.1, q12.2.1, q12.2.2.1, q12.2.2.2)) ((ref.bind fun (z2 : Int32 × Int32) => (mX6_goOn b6 (zI n) (zI a1) (zI p1) (zI k1) x1 z2.1).bind fun q4 => (mX6_within b6 (zI n) q4.1 q4.2.1 q4.2.2.1 q4.2.2.2 z2.1 z2.2 1 9).bind fun q5 => if ¬ q5.2.2.2.2.2.1 = 0 then some (nw, q5.2.1, q5.2.2.1, q5.2.2.2.1, q5.2.2.2.2.1, q5.2.2.2.2.2.1, q5.2.2.2.2.2.2) else (wr nw 120 x1 q5.1).bind fun a7 => some (a7, q5.2.1, q5.2.2.1, q5.2.2.2.1, q5.2.2.2.2.1, q5.2.2.2.2.2.1, q5.2.2.2.2.2.2)).bind fun q18 => some (nv, q18.1, zI M, nb, nt, hb, ht, q18.2.1, q18.2.2.1, q18.2.2.2.1, q18.2.2.2.2.1, q18.2.2.2.2.2.1, q18.2.2.2.2.2.2)) := by
    intro cls ref c1 c2
    rw [c1, c2, sob, sob]
    dsimp only
    rw [goOn_f i1, sob, within_f i1, sob, if_pos (show ¬ (1 : Int32) = 0 from i1), sob]
    exact Or.inr ⟨_, _, _, _, _, _, _, _, _, _, _, _, _, _, _, _, rfl, rfl, i1, rfl, rfl⟩
  rcases h1.num with ⟨k, e, r, m, w, r1, r2, r3⟩ | ⟨k, e, r⟩
  · have hi3 := r3.in
    have ek : zI k1 = 1 := by rw [e]; rfl
    rw [if_neg (not_not_intro k), r1, X2_has_z hR.2.1 hM0 (by omega), sob, if_neg (not_not_intro ek)]
    have hlt : (x1 < zI M) = (w < M) := by rw [r2, zI_lt (by omega) (by omega) (by omega) (by omega)]
    rcases r3.both (lo := 0) (hi := M - 1) (by omega) with ⟨c1, c2, c3⟩ | ⟨c1, c2⟩
    · subst c1
      obtain ⟨t2, a2, p2, k2, x2, f1, f2, h3, h4⟩ := h1.adv
      rw [bz_t (by omega), if_pos i1, f1, sob, if_pos (by rw [hlt]; omega), sob]
      dsimp only
      rw [goOn_0 f2, sob]
      dsimp only
      rcases num_z h3 (l2 := 1) (h2 := 9) (lo := 1) (hi := 9) rfl rfl (by omega) (by omega) (by omega) (by omega) rdr fp with ⟨v, t3, a3, p3, k3, x3, g1, g2, g3, g4, g5, g6, g7, g8, g9⟩ | ⟨f, hf, g5, g7⟩
      · rw [g5, sob, if_pos (show ¬ (1 : Int32) = 0 from i1), g4, wr_in (by omega) (by omega) (by omega), sob, g6, sob, sob, g7, sob]
        dsimp only
        rw [if_neg i0n, r2, wr_in (by omega) (by omega) (by omega), sob, sob]
        have := hT.2.2.2.2.1
        have := h1.2.2.2.2.1
        have := h3.2.2.2.2.1
        have hB2 : ∀ i, 0 ≤ i → i < M → (0 ≤ V i ∧ V i < 1000) ∧ 1 ≤ pt G m v i ∧ pt G m v i ≤ 9 := by
          intro i i0 i1'
          have := hR.2.2.2.2 i i0 i1'
          by_cases j : i = m
          · rw [j, pt_same]; rw [j] at this; omega
          · rw [pt_ne _ _ j]; exact this
        exact Or.inl ⟨_, _, _, _, _, _, _, _, _, _, a3, p3, k3, x3, fp, rfl, rfl, g8, ⟨⟨M, V, pt G m v, ⟨hM0, hR.2.1, hR.2.2.1, Ar_wr hR.2.2.2.1 (by omega), hB2⟩, ⟨hM0, hV.2.1, Ar_wr hV.2.2.1 (by omega), hB2⟩, rfl⟩, s2, s3, s4, s5, s6, s7⟩, by omega, rfl⟩
      · rw [g5, sob, if_neg (show ¬ ¬ (0 : Int32) = 0 from i0n), sob, g7, sob]
        dsimp only
        rw [if_pos hf, sob]
        exact Or.inr ⟨_, _, _, _, _, _, _, _, _, _, _, _, _, _, _, _, rfl, rfl, hf, rfl, rfl⟩
    · rw [bz_f (by omega), if_neg i0n, if_neg (by rw [hlt]; omega)]
      refine bad _ _ ?_ ?_
      · unfold mX1_refuse
        rw [sob, h1p]
      · unfold mX6_wrong
        rw [if_pos rfl, sob]
  · rw [if_pos k, if_pos r]
    refine bad _ _ ?_ ?_
    · unfold mX1_refuse
      rw [sob, h1p]
    · unfold mX6_wrong
      rw [if_pos rfl, sob]
theorem inV_end {V : Int → Int} {n v : Int} : ∀ i, i < n + 1 → inV V n v i = pt V n v i := by
  intro i h
  unfold inV pt
  by_cases c : i = n
  · rw [if_neg (by omega), if_pos c, if_pos c]
  · rw [if_pos (by omega), if_neg c]
theorem T_rowL {b6 : FnT} {fe n : Int} {B : Int → Int} {rdr : RdrT} {fp : Int32} : ∀ (f : Nat) (y m a p s : Int) (V G : Int → Int) (rrow : RowT) (tape : TapT) (nv nw : FnT) (x : Int32), 0 < f → (s = 3 ∨ n - a + 1 < f) → tkR b6 fe n B tape a p s x → Rw rrow m V G → Rv nv nw m V G → 0 ≤ y ∧ y ≤ m →
    (∃ (rrow' : RowT) (tape' : TapT) (nv' nw' : FnT) (m' : Int) (V' G' : Int → Int) (a' p' s' : Int) (x' : Int32), mX1_readRow_L21 f (zI y) rdr rrow tape = some (1, rdr, rrow', tape') ∧ mX6_readRow_L24 b6 (zI n) f nv nw (zI m) (zI a) (zI p) (zI s) x 0 fp = some (nv', nw', zI m', zI a', zI p', zI s', x', 0, fp) ∧ tkR b6 fe n B tape' a' p' s' x' ∧ Rw rrow' m' V' G' ∧ Rv nv' nw' m' V' G' ∧ p ≤ p') ∨
    (∃ (rrow' : RowT) (tape' : TapT) (nv' nw' : FnT) (nm' a' p' s' x' f' pl : Int32), mX1_readRow_L21 f (zI y) rdr rrow tape = some (0, (rdr.1, rdr.2.1, rdr.2.2.1, f', pl, rdr.2.2.2.2.2), rrow', tape') ∧ mX6_readRow_L24 b6 (zI n) f nv nw (zI m) (zI a) (zI p) (zI s) x 0 fp = some (nv', nw', nm', a', p', s', x', f', pl) ∧ f' ≠ 0)
  | 0, y, m, a, p, s, V, G, rrow, tape, nv, nw, x, h, _, _, _, _, _ => absurd h (Nat.lt_irrefl 0)
  | f + 1, y, m, a, p, s, V, G, rrow, tape, nv, nw, x, _, hf, hT, hR, hV, hy => by
    have hm := hR.1
    have hp := hT.2.2.2.1
    have hb := hT.2.2.2.2.1
    rw [mX1_readRow_L21, mX6_readRow_L24, if_neg (show ¬ 120 < zI y by rw [z_120, zI_lt (by omega) (by omega) (by omega) (by omega)]; omega), if_neg i0n]
    rcases hT.num with ⟨k, e, r, u, w, r1, r2, r3⟩ | ⟨k, e, r⟩
    · have hi3 := r3.in
      have ek : zI s = 1 := by rw [e]; rfl
      rw [if_neg (not_not_intro k), if_neg (not_not_intro ek), r1, X5_isValue_z (by omega), sob, hR.2.1]
      rcases r3.both (lo := 0) (hi := 999) (by omega) with ⟨c1, c2, c3⟩ | ⟨c1, c2⟩
      · subst c1
        obtain ⟨t2, a2, p2, k2, x2, f1, f2, h3, h4⟩ := hT.adv
        rw [bz_t (by omega), if_neg i1]
        by_cases g : m < 120
        · obtain ⟨rr, g1, g2⟩ := X2_open_z hR g (p := m) (v := u) (by omega) (by omega)
          rw [if_pos (show zI m < 120 by rw [z_120, zI_lt (by omega) (by omega) (by omega) (by omega)]; omega), g1, sob, f1, sob, if_pos (show ¬ zI m = 120 by rw [z_120, zI_eq (by omega) (by omega) (by omega) (by omega)]; omega), sob]
          dsimp only
          rw [ek] at f2 ⊢
          rw [within_ok (by rw [r2, show (0 : Int32) = zI 0 from rfl, zI_lt (by omega) (by omega) (by omega) (by omega)]; omega) (by rw [r2, z_999, zI_le (by omega) (by omega) (by omega) (by omega)]; omega) f2, sob]
          dsimp only
          rw [if_pos rfl, wr_in (by omega) (by omega) (by omega), sob, wr_in (by omega) (by omega) (by omega), sob, r2, zI_a1, zI_a1]
          have hB2 : ∀ i, 0 ≤ i → i < m + 1 → (0 ≤ inV V m u i ∧ inV V m u i < 1000) ∧ 1 ≤ inV G m 1 i ∧ inV G m 1 i ≤ 9 := g2.2.2.2.2
          have hV2 : Rv (upd nv m.toNat (zI u)) (upd nw m.toNat 1) (m + 1) (inV V m u) (inV G m 1) := ⟨by omega, (Ar_sn hV.2.1 (by omega)).eq (fun i _ i2 => (inV_end i i2).symm), (Ar_sn hV.2.2.1 (x := 1) (by omega)).eq (fun i _ i2 => (inV_end i i2).symm), hB2⟩
          have hb3 := h3.2.2.2.2.1
          have hf2 : k2 = 3 ∨ n - a2 + 1 < f := by
            rcases h3.fin with ⟨_, z, _⟩ | ⟨_, _, _, z⟩
            · exact Or.inl z
            · exact Or.inr (by omega)
          rcases T_rowL f (y + 1) (m + 1) a2 p2 k2 _ _ rr t2 _ _ x2 (by omega) hf2 h3 g2 hV2 (by omega) with ⟨rrow', tape', nv', nw', m', V', G', a', p', s', x', q1, q2, q3, q4, q5, q6⟩ | ⟨rrow', tape', nv', nw', nm', a', p', s', x', f', pl, q1, q2, q3⟩
          · exact Or.inl ⟨rrow', tape', nv', nw', m', V', G', a', p', s', x', q1, q2, q3, q4, q5, by omega⟩
          · exact Or.inr ⟨rrow', tape', nv', nw', nm', a', p', s', x', f', pl, q1, q2, q3⟩
        · rw [if_neg (show ¬ zI m < 120 by rw [z_120, zI_lt (by omega) (by omega) (by omega) (by omega)]; omega), if_neg (show ¬ ¬ zI m = 120 by rw [z_120, zI_eq (by omega) (by omega) (by omega) (by omega)]; omega)]
          unfold mX1_refuse mX6_wrong
          rw [if_pos rfl, sob, sob, sob]
          dsimp only
          rw [within_f i2, sob]
          dsimp only
          rw [if_neg i2, hp]
          exact Or.inr ⟨_, _, _, _, _, _, _, _, _, _, _, rfl, rfl, i2⟩
      · rw [bz_f (by omega), if_pos rfl]
        unfold mX1_refuse mX6_wrong
        rw [sob, if_pos rfl, sob, hp, ek]
        by_cases g : m = 120
        · rw [if_neg (show ¬ ¬ zI m = 120 by rw [g]; exact not_not_intro rfl), sob]
          dsimp only
          rw [within_f i2, sob]
          dsimp only
          rw [if_neg i2]
          exact Or.inr ⟨_, _, _, _, _, _, _, _, _, _, _, rfl, rfl, i2⟩
        · rw [if_pos (show ¬ zI m = 120 by rw [z_120, zI_eq (by omega) (by omega) (by omega) (by omega)]; omega), sob]
          dsimp only
          rw [within_no (by rw [r2, z_999, show (0 : Int32) = zI 0 from rfl, zI_lt (by omega) (by omega) (by omega) (by omega), zI_le (by omega) (by omega) (by omega) (by omega)]; omega), sob]
          dsimp only
          rw [if_neg i2]
          exact Or.inr ⟨_, _, _, _, _, _, _, _, _, _, _, rfl, rfl, i2⟩
    · rw [if_pos k, if_pos r]
      exact Or.inl ⟨rrow, tape, nv, nw, m, V, G, a, p, s, x, rfl, rfl, hT, hR, hV, by omega⟩
theorem T_row {b6 : FnT} {fe n a p s : Int} {B : Int → Int} {tape : TapT} {rdr : RdrT} {rrow : RowT} {nv nw : FnT} {nm nb nt hb ht x : Int32} (hT : tkR b6 fe n B tape a p s x) (hS : stR rdr rrow nv nw nm nb nt hb ht) (fp : Int32) :
    OKL b6 fe n B a rdr.2.2.1 ((mX1_readRow rdr rrow tape).bind fun q13 => some (q13.1, q13.2.1, q13.2.2.1, q13.2.2.2)) ((mX6_readRow b6 nv nw nm (zI n) (zI a) (zI p) (zI s) x 0 fp).bind fun q19 => some (q19.1, q19.2.1, q19.2.2.1, nb, nt, hb, ht, q19.2.2.2.1, q19.2.2.2.2.1, q19.2.2.2.2.2.1, q19.2.2.2.2.2.2.1, q19.2.2.2.2.2.2.2.1, q19.2.2.2.2.2.2.2.2)) := by
  obtain ⟨⟨M, V, G, hR, hV, hM⟩, s2, s3, s4, s5, s6, s7⟩ := hS
  obtain ⟨t1, a1, p1, k1, x1, e1, e2, h1, h2⟩ := hT.adv
  have hn := hT.1.1
  have hM0 := hR.1
  have h1p := h1.2.2.2.1
  unfold mX1_readRow mX6_readRow
  rw [e1, sob, goOn_0 e2, sob]
  dsimp only
  rw [if_neg i0n, hM]
  rcases h1.num with ⟨k, e, r, u, w, r1, r2, r3⟩ | ⟨k, e, r⟩
  · have ek : zI k1 = 1 := by rw [e]; rfl
    rw [if_pos k, if_pos ek, sob]
    dsimp only
    have hb1 := h1.2.2.2.2.1
    rcases T_rowL (rdr := rdr) (fp := fp) FU 0 M a1 p1 k1 V G rrow t1 nv nw x1 (by rw [FU_e]; omega) (Or.inr (by rw [FU_e]; omega)) h1 hR hV (by omega) with ⟨rrow', tape', nv', nw', m', V', G', a', p', s', x', q1, q2, q3, q4, q5, q6⟩ | ⟨rrow', tape', nv', nw', nm', a', p', s', x', f', pl, q1, q2, q3⟩
    · rw [show zI 0 = (0 : Int32) from rfl] at q1
      rw [q1, sob, q2, sob]
      exact Or.inl ⟨_, _, _, _, _, _, _, _, _, _, a', p', s', x', fp, rfl, rfl, q3, ⟨⟨m', V', G', q4, q5, rfl⟩, s2, s3, s4, s5, s6, s7⟩, by omega, rfl⟩
    · rw [show zI 0 = (0 : Int32) from rfl] at q1
      rw [q1, sob, q2, sob]
      exact Or.inr ⟨_, _, _, _, _, _, _, _, _, _, _, _, _, _, _, _, rfl, rfl, q3, rfl, rfl⟩
  · rw [if_neg k, if_neg r]
    unfold mX1_refuse mX6_wrong
    rw [sob, sob, if_pos rfl, sob, sob]
    dsimp only
    obtain ⟨g, hg⟩ : ∃ g, FU = g + 1 := ⟨1999, rfl⟩
    rw [hg, mX6_readRow_L24, if_pos i1, sob, h1p]
    exact Or.inr ⟨_, _, _, _, _, _, _, _, _, _, _, _, _, _, _, _, rfl, rfl, i1, rfl, rfl⟩
